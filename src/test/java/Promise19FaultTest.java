/** fault: the first character that can't stand at its place. */
public final class Promise19FaultTest {
    public static void main(String[] args) {
        for (String text : new String[] {"a:1", "z:9", "abcdefg:40", "a:39", "a:10", "a:29,b:30,a:4", "a:1,a:1,a:2"}) {
            fault(text, RunningHeads.NONE);
        }
        tooShort();
        words();
        lines();
        longTexts();
        Check.end();
    }

    private static void fault(String text, int want) {
        Heads x = new Heads();
        Check.put(x, text);
        Check.due("fault() of '" + text + "'", x.fault(), want);
        Check.due("the length of the pad behind it", x.count(13), text.length());
    }

    private static void tooShort() {
        for (String text : new String[] {"", "a", "abcdefg", "a:", "a:1,", "a:40,b", "a:4,b:"}) {
            fault(text, text.length());
        }
    }

    private static void words() {
        fault("A:1", 0);
        fault(":1", 0);
        fault(",a:1", 0);
        fault("1:1", 0);
        fault("`", 0);
        fault("{", 0);
        fault("abcdefgh", 7);
        fault("abcdefgh:1", 7);
        fault("ab1:1", 2);
        fault("ab,c:1", 2);
        fault("a-b:1", 1);
        fault("a:1,,b:1", 4);
        fault("a:1,:1", 4);
        fault("a:1,B:1", 4);
        fault("a:1,bcdefghi:1", 11);
    }

    private static void lines() {
        fault("a:0", 2);
        fault("a:01", 2);
        fault("a::1", 2);
        fault("a:,", 2);
        fault("a:b", 2);
        fault("a:-1", 2);
        fault("a:/", 2);
        fault("a:;", 2);
        fault("a:41", 3);
        fault("a:49", 3);
        fault("a:50", 3);
        fault("a:99", 3);
        fault("a:400", 4);
        fault("a:100", 4);
        fault("a:390", 4);
        fault("a:1b", 3);
        fault("a:4b", 3);
        fault("a:9:", 3);
        fault("a:1;b:2", 3);
        fault("a:12,b:41", 8);
    }

    private static void longTexts() {
        String sixty = "a:1,b:1,c:1,d:1,e:1,f:1,g:1,h:1,i:1,j:1,k:1,l:1,m:1,n:1,o:12";
        fault(sixty.substring(0, 59), RunningHeads.NONE);
        fault(sixty.substring(0, 60), RunningHeads.NONE);
        fault(sixty.substring(0, 56) + "abcd", 60);
        fault(sixty.substring(0, 59) + "x", 59);
    }
}
