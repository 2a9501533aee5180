/** wipe: an empty pad, and nothing else. */
public final class Promise18WipeTest {
    public static void main(String[] args) {
        Heads x = Check.lexicon("a:5,b:8");
        String before = Check.all(x);
        Check.due("wipe() of an empty pad", x.wipe(), 0);
        Check.put(x, "c:1,d:2,e");
        Check.due("wipe()", x.wipe(), 9);
        Check.due("wipe() again", x.wipe(), 0);
        Check.due("count(13)", x.count(13), 0);
        Check.due("fault()", x.fault(), 0);
        Check.text("all behind it", Check.all(x), before);
        Check.put(x, "c:1");
        Check.due("read()", x.read(), 3);
        Check.text("the entries", Check.entries(x), "a:5,b:8,c:1");
        Check.due("count(14): wipe is no change", x.count(14), 2);
        for (int put = 0; put < 60; put++) {
            x.put('~');
        }
        Check.due("wipe() of a full pad", x.wipe(), 60);
        Check.end();
    }
}
