/** read: entries of the pad, in the order of their words. */
public final class Promise03ReadTest {
    public static void main(String[] args) {
        orderOfWords();
        wordsThatStand();
        faults();
        tooMany();
        isAChange();
        Check.end();
    }

    private static void orderOfWords() {
        Heads x = new Heads();
        Check.put(x, "b:1,abc:2,ab:40,abcdefg:9,aa:10,z:39,abd:3");
        Check.due("read()", x.read(), 7);
        Check.text("the entries", Check.entries(x), "aa:10,ab:40,abc:2,abcdefg:9,abd:3,b:1,z:39");
        Check.due("the length of the pad then", x.count(13), 0);
        Check.due("read() of an empty pad", x.read(), RunningHeads.BAD_TEXT);
        Check.pad(x, "ac:4");
        Check.due("read() of one more", x.read(), 8);
        Check.text("the entries", Check.entries(x), "aa:10,ab:40,abc:2,abcdefg:9,abd:3,ac:4,b:1,z:39");
    }

    private static void wordsThatStand() {
        Heads x = Check.lexicon("b:1,d:4,b:3");
        Check.text("the lines told last", Check.entries(x), "b:3,d:4");
        Check.pad(x, "d:7,a:1,d:5,a:2,d:6");
        Check.due("read()", x.read(), 3);
        Check.text("the lines told last", Check.entries(x), "a:2,b:3,d:6");
    }

    private static void faults() {
        for (String text : new String[] {"a", "a:", ":1", "a:0", "a:41", "a:1,", "a:1,b", "A:1", "abcdefgh:1", ",a:1"}) {
            Heads x = Check.lexicon("b:1");
            Check.pad(x, text);
            String before = Check.all(x);
            Check.due("read() of " + text, x.read(), RunningHeads.BAD_TEXT);
            Check.text("all behind the error", Check.all(x), before);
            Check.due("the length of the pad", x.count(13), text.length());
        }
    }

    private static void tooMany() {
        Heads x = twentyEight();
        Check.pad(x, "aa:2,a:9,ab:3,ac:4");
        String before = Check.all(x);
        x = twentyEight();
        Check.pad(x, "aa:2,a:9,ab:3,ac:4");
        Check.due("read() of 31 entries", x.read(), RunningHeads.TOO_MANY);
        Check.text("all behind the error", Check.all(x), before);
        Check.due("the length of the pad", x.count(13), 18);
        x = twentyEight();
        Check.pad(x, "aa:2,ab:3,ac:4,a:9");
        Check.due("read() of 31 entries, the third one too many", x.read(), RunningHeads.TOO_MANY);
        Check.text("the first entry", Check.word(x, 0) + x.entry(0, 0), "a1");
        Check.pad(x, "aa:2,ab:3,a:8,aa:4,ab:5");
        Check.due("read() of 30 entries", x.read(), 30);
        Check.pad(x, "zz:2");
        Check.due("read() of one more", x.read(), RunningHeads.TOO_MANY);
        Check.pad(x, "z:2,a:3");
        Check.due("read() of such as stand", x.read(), 30);
        Check.due("lines of the first", x.entry(0, 0), 3);
        Check.due("lines of the last", x.entry(29, 0), 2);
    }

    private static Heads twentyEight() {
        Heads x = Check.lexicon("a:1,b:1,c:1,d:1,e:1,f:1,g:1,h:1,i:1,j:1,k:1,l:1,m:1,n:1,o:1",
            "p:1,q:1,r:1,s:1,t:1,u:1,v:1,w:1,x:1,y:1,z:1,ba:1,bb:1");
        Check.due("entries", x.count(3), 28);
        return x;
    }

    private static void isAChange() {
        Heads x = Check.lexicon("a:1");
        Check.pad(x, "a:1");
        Check.due("read() of the same", x.read(), 1);
        Check.due("count(14)", x.count(14), 2);
        Check.due("undo()", x.undo(), 1);
        Check.due("undo()", x.undo(), 0);
        Check.due("entries", x.count(3), 0);
    }
}
