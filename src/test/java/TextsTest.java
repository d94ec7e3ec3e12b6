/** Promises 24 to 26: the text and its rules. */
public final class TextsTest {
    private static final int BAD = -2, FULL = -4;

    public static void main(String[] args) {
        typing();
        rules();
        blanks();
        wrongWords();
        wrongNumbers();
        earlyEnds();
        wrongBytes();
        manyRules();
        replacing();
        Run.end();
    }

    private static int fault(int at) {
        return -10 - at;
    }

    private static void faults(String text, int at) {
        new Run("Promise 26").reads(text, fault(at)).does("count(0) = 0; told(4) = 0; told(0) = 0; told(1) = 0; told(2) = 0;"
                + " told(3) = " + text.length());
    }

    private static void typing() {
        Run run = new Run("Promise 24 and 25").does("type(0) = 1; type(127) = 2").fails(BAD, "type(-1); type(128)")
                .does("clear() = 2; clear() = 0; told(3) = 0; told(4) = 0; back() = -3");
        for (int n = 1; n <= 120; n++) {
            run.does("type(32) = " + n);
        }
        run.fails(FULL, "type(32); type(0)").fails(BAD, "type(128); type(-1)")
                .does("told(3) = 120; reads() = 0; told(3) = 120; clear() = 120; told(3) = 0; type(59) = 1; reads() = -10");
    }

    private static void rules() {
        new Run("Promise 26, none").does("rule(0, 1) = 1; reads() = 0; count(0) = 0; told(4) = 2; rule(0, 1) = 1").reads("   ", 0)
                .does("count(0) = 0");
        new Run("Promise 26, actions").reads("deny;allow;reject;", 3)
                .hasRule(0, 6, 6, 0, 31, 0, 31, 0, 15, 2, 0, 0)
                .hasRule(1, 6, 6, 0, 31, 0, 31, 0, 15, 2, 1, 0)
                .hasRule(2, 6, 6, 0, 31, 0, 31, 0, 15, 2, 2, 0);
        new Run("Promise 26, all parts").reads("allow from 1 to 2 src 3 4 dst 5 6 port 7 8 stream;", 1).hasRule(0, 1, 2, 3, 4, 5, 6, 7, 8, 0, 1, 0);
        new Run("Promise 26, any order").reads("reject single port 15 0 dst 31 0 src 31 9 to 6 from 0;", 1)
                .hasRule(0, 0, 6, 31, 9, 31, 0, 15, 0, 1, 2, 0);
        new Run("Promise 26, each alone").reads("deny from 5;", 1).hasRule(0, 5, 6, 0, 31, 0, 31, 0, 15, 2, 0)
                .reads("deny to 5;", 1).hasRule(0, 6, 5, 0, 31, 0, 31, 0, 15, 2, 0)
                .reads("deny src 5 7;", 1).hasRule(0, 6, 6, 5, 7, 0, 31, 0, 15, 2, 0)
                .reads("deny dst 5 7;", 1).hasRule(0, 6, 6, 0, 31, 5, 7, 0, 15, 2, 0)
                .reads("deny port 5 7;", 1).hasRule(0, 6, 6, 0, 31, 0, 31, 5, 7, 2, 0)
                .reads("deny stream;", 1).hasRule(0, 6, 6, 0, 31, 0, 31, 0, 15, 0, 0)
                .reads("deny single;", 1).hasRule(0, 6, 6, 0, 31, 0, 31, 0, 15, 1, 0);
        new Run("Promise 26, parts again in the next rule").reads("deny to 1;deny to 2 stream;deny single to 3;", 3)
                .does("of(2, 1) = 3; of(2, 8) = 1; of(1, 8) = 0");
        new Run("Promise 26, two digits").reads("deny from 06 src 00 31 port 09 15;", 1).hasRule(0, 6, 6, 0, 31, 0, 31, 9, 15, 2, 0);
    }

    private static void blanks() {
        new Run("Promise 26, few blanks").reads("allow from1to2src3 4dst5 6port7 8stream;deny;", 2).hasRule(0, 1, 2, 3, 4, 5, 6, 7, 8, 0, 1, 0);
        new Run("Promise 26, many blanks").reads("  allow  from  1  src  3  4  ;  deny  ;  ", 2).hasRule(0, 1, 6, 3, 4, 0, 31, 0, 15, 2, 1, 0);
        faults("allowfrom 1;", 0);
        faults("allow streamfrom 1;", 6);
        faults("al low;", 0);
        faults("allow fr om 1;", 6);
        faults("allow src 12;", 12);
        faults("allow src 1 2 3;", 14);
        faults("allow from 1 2;", 13);
        faults("allow port 1 5 1;", 15);
    }

    private static void wrongWords() {
        faults("permit;", 0);
        faults("from 1;", 0);
        faults("stream;", 0);
        faults("deny deny;", 5);
        faults("deny;x;", 5);
        faults("deny from 1 from 2;", 12);
        faults("deny to 1 to 1;", 10);
        faults("deny src 1 2 src 1 2;", 13);
        faults("deny dst 1 2 dst 1 2;", 13);
        faults("deny port 1 2 port 1 2;", 14);
        faults("deny stream single;", 12);
        faults("deny single stream;", 12);
        faults("deny stream stream;", 12);
        faults("deny from 1 to 1 src 1 1 dst 1 1 port 1 1 stream to 1;", 49);
        faults("deny from 1 to 1 src 1 1 dst 1 1 port 1 1 single x;", 49);
        faults("denyy;", 0);
        faults("denya;", 0);
        faults("denyz;", 0);
        faults("den;", 0);
        faults("deny t 1;", 5);
        faults("deny too 1;", 5);
        faults("deny ports 1 2;", 5);
        faults("deny from from;", 10);
        faults("deny src 1 to 2;", 11);
        faults("deny from x;", 10);
        // a wrong word at the end is still a wrong word
        faults("den", 0);
        faults("deny fro", 5);
        faults("deny stream single", 12);
        faults("deny to 1 to", 10);
    }

    private static void wrongNumbers() {
        faults("deny from 7;", 10);
        faults("deny from 10;", 10);
        faults("deny to 7;", 8);
        faults("deny src 32 1;", 9);
        faults("deny src 1 32;", 11);
        faults("deny dst 99 1;", 9);
        faults("deny dst 1 32;", 11);
        faults("deny port 16 1;", 10);
        faults("deny port 1 16;", 12);
        faults("deny from 001;", 12);
        faults("deny from 999;", 12);
        faults("deny src 123 4;", 11);
        faults("deny src 1 1234;", 13);
        faults("deny from 7x;", 10);
        // a wrong number at the end is still a wrong number
        faults("deny from 7", 10);
        faults("deny src 1 32", 11);
        faults("deny from 123", 12);
    }

    private static void earlyEnds() {
        for (String text : new String[] {"deny", "deny ", "deny from", "deny from ", "deny from 1", "deny from 1 ", "deny src 1", "deny src 1 ",
            "deny src 1 2", "deny stream", "deny port", "deny; allow", "deny;allow dst 31", "deny;reject single  "}) {
            faults(text, text.length());
        }
    }

    private static void wrongBytes() {
        faults(";", 0);
        faults("  ;", 2);
        faults("deny;;", 5);
        faults("1;", 0);
        faults("deny 1;", 5);
        faults("deny 123;", 5);
        faults("deny from;", 9);
        faults("deny src 1;", 10);
        faults("deny\t;", 4);
        faults("Deny;", 0);
        faults("dEny;", 0);
        faults("deny from -1;", 10);
        faults("deny from 1\n;", 11);
        faults("deny;\u0000", 5);
        faults("deny;\u007f", 5);
        faults("deny`;", 4);
        faults("deny{;", 4);
        faults("deny from /;", 10);
        faults("deny from :;", 10);
        faults("deny,;", 4);
    }

    private static void manyRules() {
        String twelve = "deny;".repeat(11) + "allow;";
        new Run("Promise 26, twelve").reads(twelve, 12).does("count(0) = 12; of(11, 9) = 1; of(10, 9) = 0").reads(twelve + "  ", 12);
        faults(twelve + "deny;", 61);
        faults(twelve + "  x", 63);
        faults(twelve + ";", 61);
        faults(twelve + " 1", 62);
    }

    private static void replacing() {
        new Run("Promise 26, hits").reads("reject;", 1).does("letter(0, 0, 0, 0, 0) = 2; of(0, 10) = 1; told(4) = 2; reads() = 1; of(0, 10) = 0;"
                + " told(4) = 3;"
                + "told(3) = 7; back() = 2; of(0, 10) = 1; told(3) = 7; rule(0, 1) = 2; type(59) = 8; reads() = -17; count(0) = 2; of(0, 9) = 1;"
                + "of(1, 10) = 1; told(4) = 3; told(0) = 0; told(1) = 0; told(2) = 0");
    }
}
