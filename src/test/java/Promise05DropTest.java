/** drop: an entry goes, and those behind it get numbers that are 1 less. */
public final class Promise05DropTest {
    public static void main(String[] args) {
        Heads x = Check.lexicon("a:5,bb:6,c:40,d:1");
        Check.due("drop(1)", x.drop(1), 6);
        Check.text("the entries", Check.entries(x), "a:5,c:40,d:1");
        Check.due("drop(2)", x.drop(2), 1);
        Check.due("drop(2)", x.drop(2), RunningHeads.NO_SUCH);
        Check.due("drop(0)", x.drop(0), 5);
        Check.text("the entries", Check.entries(x), "c:40");
        Check.due("the line on which it begins now", x.entry(0, 2), 0);
        Check.due("count(14)", x.count(14), 4);
        String before = Check.all(x);
        Check.due("drop(-1)", x.drop(-1), RunningHeads.NO_SUCH);
        Check.due("drop(1)", x.drop(1), RunningHeads.NO_SUCH);
        for (int far : Check.FAR) {
            Check.due("drop(" + far + ")", x.drop(far), RunningHeads.NO_SUCH);
        }
        Check.text("all behind errors", Check.all(x), before);
        Check.due("drop(0) of the only one", x.drop(0), 40);
        Check.due("pages", x.count(4), 0);
        Check.due("passes", x.count(8), 1);
        Check.due("drop(0) of none", x.drop(0), RunningHeads.NO_SUCH);
        full();
        Check.end();
    }

    private static void full() {
        Heads x = Check.lexicon("a:1,b:2,c:3,d:4,e:5,f:6,g:7,h:8,i:9,j:1,k:1,l:1,m:1,n:1,o:1",
            "p:1,q:1,r:1,s:1,t:1,u:1,v:1,w:1,x:1,y:1,z:1,ba:1,bb:1,bc:1", "bd:1");
        Check.due("entries", x.count(3), 30);
        Check.due("drop(0) of 30", x.drop(0), 1);
        Check.due("lines of the first one then", x.entry(0, 0), 2);
        Check.due("drop(28) of 29", x.drop(28), 1);
        Check.text("the last one then", Check.word(x, 27), "y");
        Check.due("undo()", x.undo(), 4);
        Check.due("undo()", x.undo(), 3);
        Check.due("drop(29) of 30", x.drop(29), 1);
        Check.due("entries", x.count(3), 29);
    }
}
