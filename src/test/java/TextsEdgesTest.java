/**
 * The boundary cases that the document names about texts: its head 'Texts' and the promises
 * 24 to 26. Each run bears the sentence that it holds.
 */
public final class TextsEdgesTest {
    private static final int BAD = -2, FULL = -4;

    public static void main(String[] args) {
        typeArguments();
        typeFull();
        clearLengths();
        readsEmpty();
        readsTwelve();
        thirteenth();
        fullBuffer();
        actions();
        zoneNumbers();
        pairsOfNumbers();
        eachAtMostOnce();
        anyOrder();
        notGiven();
        wholeWords();
        oneOrTwoDigits();
        thirdDigit();
        blanksAnywhere();
        blanksNeeded();
        everyByteAtTheStart();
        everyByteBehindAWord();
        everyByteBehindANumber();
        everyByteForANumber();
        everyByteBehindARule();
        everyByteInAWord();
        wrongWords();
        wrongNumbers();
        endsTooEarly();
        wrongAtTheEnd();
        firstFault();
        faultChangesNothing();
        readsReplaces();
        Run.end();
    }

    private static int fault(int at) {
        return -10 - at;
    }

    private static void faulty(String sentence, String text, int at) {
        new Run("Texts: " + sentence).reads(text, fault(at)).does("count(0) = 0; told(3) = " + text.length() + "; told(4) = 0");
    }

    private static void right(String sentence, String text, int rules) {
        new Run("Texts: " + sentence).reads(text, rules).does("count(0) = " + rules + "; told(3) = " + text.length() + "; told(4) = 1");
    }

    // ---- promises 24 and 25

    private static void typeArguments() {
        new Run("Promise 24: 'c: 0 to 127', in an empty text").each("type(0) = 1; type(127) = 1").beyond("type(#)", 0, 127)
                .fails(BAD, "type(256); type(356); type(-128)").does("told(3) = 0");
        new Run("Promise 24: 'c: 0 to 127'").types("deny").each("type(0) = 5; type(127) = 5; type(59) = 5").beyond("type(#)", 0, 127)
                .does("told(3) = 4; type(59) = 5; reads() = 1");
    }

    private static void typeFull() {
        new Run("Promise 24: 'FULL if it already has 120 bytes', the last byte").types(" ".repeat(119))
                .each("type(32) = 120; type(0) = 120; type(127) = 120").fails(BAD, "type(128); type(-1)");
        new Run("Promise 24: 'FULL if it already has 120 bytes'").types(" ".repeat(120)).fails(FULL, "type(32); type(0); type(127)")
                .fails(BAD, "type(128); type(-1)")
                .does("told(0) = 2; told(2) = 3; told(3) = 120; reads() = 0; clear() = 120; type(100) = 1");
        new Run("Promise 24: a byte that is refused does not stand in the text").types(" ".repeat(115) + "deny;")
                .does("type(59) = -4; reads() = 1; clear() = 120").types("deny").does("type(200) = -2; type(59) = 5; reads() = 1");
    }

    private static void clearLengths() {
        new Run("Promise 25: 'Returns the length that it had', empty").does("clear() = 0; clear() = 0; told(3) = 0; told(4) = 0");
        new Run("Promise 25: 'Returns the length that it had', one byte").does("type(0) = 1; clear() = 1; told(3) = 0; clear() = 0");
        new Run("Promise 25: 'Returns the length that it had', full").types("x".repeat(120)).does("clear() = 120; told(3) = 0; clear() = 0;"
                + " type(120) = 1; reads() = -10; told(2) = 0");
        new Run("Promise 25: 'Makes the text empty', and nothing of it comes back").types("reject;").does("clear() = 7; reads() = 0").types("deny;")
                .does("reads() = 1; of(0, 9) = 0; told(3) = 5");
        new Run("Promise 25: it is no state that can be taken back").types("deny;").does("clear() = 5; told(4) = 0; back() = -3; told(3) = 0");
    }

    // ---- promise 26: how many rules

    private static void readsEmpty() {
        new Run("Texts: 'at most 12 rules (also none)', the empty text").does("reads() = 0; count(0) = 0; told(4) = 1; rule(0, 1) = 1; reads() = 0;"
                + " count(0) = 0; told(4) = 3; told(3) = 0");
        right("'at most 12 rules (also none)', one blank", " ", 0);
        right("'at most 12 rules (also none)', 120 blanks", " ".repeat(120), 0);
    }

    private static void readsTwelve() {
        new Run("Texts: 'at most 12 rules', twelve").reads("deny;".repeat(11) + "reject;", 12).does("of(11, 9) = 2").fails(FULL, "rule(0, 0)")
                .fails(BAD, "of(12, 0)");
        right("'at most 12 rules', eleven", "deny;".repeat(11), 11);
        right("'at most 12 rules', twelve and blanks behind them", "deny;".repeat(12) + "   ", 12);
    }

    private static void thirteenth() {
        String sentence = "'for a thirteenth rule its first byte'";
        String twelve = "deny;".repeat(12);
        faulty(sentence, twelve + "deny;", 60);
        faulty(sentence, twelve + "  allow;", 62);
        faulty(sentence, twelve + "d", 60);
        faulty(sentence, twelve + "deny", 60);
        faulty(sentence, twelve + "deny from 7;", 60);
        faulty(sentence + ", whatever it is", twelve + "x", 60);
        faulty(sentence + ", whatever it is", twelve + " ;", 61);
        faulty(sentence + ", whatever it is", twelve + "1", 60);
        faulty("a fault in the twelfth rule comes first", "deny;".repeat(11) + "den;deny;", 55);
        faulty("a fault in the twelfth rule comes first", "deny;".repeat(11) + "deny;;", 60);
    }

    private static void fullBuffer() {
        String long120 = "allow from 1 to 2 src 10 20 dst 11 21 port 10 15 stream;" + "reject single port 12 13 dst 14 15 src 16 17 to 3 from 4;";
        String full = long120 + " ".repeat(120 - long120.length());
        new Run("Texts: 'a buffer of at most 120 bytes', full of rules")
                .reads(full, 2).hasRule(0, 1, 2, 10, 20, 11, 21, 10, 15, 0, 1, 0).hasRule(1, 4, 3, 16, 17, 14, 15, 12, 13, 1, 2, 0);
        faulty("a fault at the last byte of 120", " ".repeat(119) + ";", 119);
        faulty("a fault at the last byte of 120", " ".repeat(119) + "d", 119);
        faulty("'the length of the text if it ends too early', 120", " ".repeat(116) + "deny", 120);
        right("a rule that ends with the last byte of 120", " ".repeat(115) + "deny;", 1);
    }

    // ---- promise 26: what a rule is

    private static void actions() {
        String sentence = "'A rule is one of the words deny, allow, reject'";
        new Run("Texts: " + sentence).reads("deny;", 1).does("of(0, 9) = 0").reads("allow;", 1).does("of(0, 9) = 1").reads("reject;", 1)
                .does("of(0, 9) = 2");
        for (String word : new String[] {"from 1;", "to 1;", "src 1 2;", "dst 1 2;", "port 1 2;", "stream;", "single;", "drop;"}) {
            faulty(sentence + ", not " + word, word, 0);
        }
        for (String word : new String[] {"deny", "allow", "reject"}) {
            faulty("a second action", "deny " + word + ";", 5);
            faulty("a second action", "deny stream " + word + ";", 12);
        }
    }

    private static void zoneNumbers() {
        String[] words = {"from", "to"};
        for (int k = 0; k < 2; k++) {
            String head = "deny " + words[k] + " ";
            String sentence = "'" + words[k] + " and a zone (0 to 6)'";
            new Run("Texts: " + sentence).reads(head + "0;", 1).does("of(0, " + k + ") = 0; of(0, " + (1 - k) + ") = 6").reads(head + "5;", 1)
                    .does("of(0, " + k + ") = 5")
                    .reads(head + "6;", 1).does("of(0, " + k + ") = 6").reads(head + "06;", 1).does("of(0, " + k + ") = 6").reads(head + "00;", 1)
                    .does("of(0, " + k + ") = 0");
            for (String number : new String[] {"7", "07", "9", "10", "60", "99"}) {
                faulty(sentence, head + number + ";", head.length());
            }
            faulty(sentence + ", one", head + ";", head.length());
            faulty(sentence + ", not two", head + "1 2;", head.length() + 2);
        }
    }

    private static void pairsOfNumbers() {
        String[] words = {"src", "dst", "port"};
        for (int k = 0; k < 3; k++) {
            int last = k == 2 ? 15 : 31;
            int least = 2 + 2 * k;
            String head = "deny " + words[k] + " ";
            String sentence = "'" + words[k] + " and two " + (k == 2 ? "ports'" : "addresses'");
            int[][] pairs = {{0, 0}, {0, last}, {last, last}, {last, 0}, {9, 10}, {10, 9}};
            for (int[] pair : pairs) {
                new Run("Texts: " + sentence).reads(head + pair[0] + " " + pair[1] + ";", 1).does("of(0, " + least + ") = " + pair[0] + ";"
                        + " of(0, " + (least + 1) + ") = " + pair[1]);
            }
            faulty(sentence + ", the first too great", head + (last + 1) + " 1;", head.length());
            faulty(sentence + ", the second too great", head + "1 " + (last + 1) + ";", head.length() + 2);
            faulty(sentence + ", the first too great", head + "99 1;", head.length());
            faulty(sentence + ", both too great", head + "99 99;", head.length());
            faulty(sentence + ", none", head + ";", head.length());
            faulty(sentence + ", one", head + "1;", head.length() + 1);
            faulty(sentence + ", one of two digits", head + "12;", head.length() + 2);
            faulty(sentence + ", one and a word", head + "1 stream;", head.length() + 2);
            faulty(sentence + ", three", head + "1 2 3;", head.length() + 4);
        }
    }

    private static void eachAtMostOnce() {
        String[] parts = {"from 1", "to 1", "src 1 2", "dst 1 2", "port 1 2", "stream", "single"};
        for (int p = 0; p < parts.length; p++) {
            for (int q = 0; q < parts.length; q++) {
                String text = "deny " + parts[p] + " " + parts[q] + ";";
                if (p == q || p >= 5 && q >= 5) {
                    faulty("'each at most once', 'stream and single both'", text, 6 + parts[p].length());
                } else {
                    right("'in any order and each at most once'", text, 1);
                }
            }
        }
        faulty("'given already', behind all six parts", "deny from 1 to 1 src 1 2 dst 1 2 port 1 2 stream single;", 49);
        faulty("'given already', behind all six parts", "deny from 1 to 1 src 1 2 dst 1 2 port 1 2 stream from 1;", 49);
        right("a part again in the next rule", "deny from 1 stream;deny from 1 single;", 2);
    }

    private static void anyOrder() {
        new Run("Texts: 'in any order'").reads("allow stream port 7 8 dst 5 6 src 3 4 to 2 from 1;", 1).hasRule(0, 1, 2, 3, 4, 5, 6, 7, 8, 0, 1, 0)
                .reads("allow from 1 to 2 src 3 4 dst 5 6 port 7 8 single;", 1).hasRule(0, 1, 2, 3, 4, 5, 6, 7, 8, 1, 1, 0);
    }

    private static void notGiven() {
        String sentence = "Texts: 'What is not given is any: zone 6, all addresses, all ports, both sorts'";
        new Run(sentence).reads("reject;", 1).hasRule(0, 6, 6, 0, 31, 0, 31, 0, 15, 2, 2, 0);
        // what one rule gives does not stay for the next
        new Run(sentence).reads("allow from 1 to 2 src 3 4 dst 5 6 port 7 8 stream;deny;", 2).hasRule(1, 6, 6, 0, 31, 0, 31, 0, 15, 2, 0, 0);
    }

    // ---- promise 26: words, numbers, blanks

    private static void wholeWords() {
        String sentence = "'A word is a run of letters a to z'";
        String[] words = {"deny", "allow", "reject", "from", "to", "src", "dst", "port", "stream", "single"};
        for (String word : words) {
            String head = words[0].equals(word) || word.equals("allow") || word.equals("reject") ? "" : "deny ";
            String cut = word.substring(0, word.length() - 1);
            faulty(sentence + ", a letter less", head + cut + " 1 1;", head.length());
            faulty(sentence + ", a letter more, a", head + word + "a 1 1;", head.length());
            faulty(sentence + ", a letter more, z", head + word + "z 1 1;", head.length());
            faulty(sentence + ", a letter before", head + "a" + word + " 1 1;", head.length());
            faulty(sentence + ", not a great letter", head + word.substring(0, 1).toUpperCase() + word.substring(1) + " 1 1;", head.length());
        }
        faulty(sentence + ", two words in one", "denystream;", 0);
        faulty(sentence + ", two words in one", "deny streamfrom 1;", 5);
    }

    private static void oneOrTwoDigits() {
        new Run("Texts: 'a number has one or two digits'")
                .reads("deny src 7 07 dst 00 31 port 0 09;", 1).hasRule(0, 6, 6, 7, 7, 0, 31, 0, 9, 2, 0, 0);
        faulty("'a number has one or two digits', not none", "deny from ;", 10);
        faulty("'a number has one or two digits', not none", "deny src 1 ;", 11);
    }

    private static void thirdDigit() {
        String sentence = "'for a third digit of a number that digit (whatever the first two are)'";
        for (String number : new String[] {"000", "001", "012", "100", "310", "320", "999", "0000", "12345"}) {
            faulty(sentence, "deny from " + number + ";", 12);
            faulty(sentence, "deny to " + number + ";", 10);
            faulty(sentence, "deny src " + number + " 1;", 11);
            faulty(sentence, "deny src 1 " + number + ";", 13);
            faulty(sentence, "deny dst 1 " + number + ";", 13);
            faulty(sentence, "deny port " + number + " 1;", 12);
            faulty(sentence, "deny port 15 " + number + ";", 15);
            faulty(sentence + ", at the end", "deny from " + number, 12);
        }
        faulty("three digits where no number can stand", "deny 123;", 5);
    }

    private static void blanksAnywhere() {
        String sentence = "Texts: 'Blanks (byte 32) may stand anywhere except within a word or number'";
        new Run(sentence).reads("  allow   from  1   to 2  src  3   4  dst 5  6 port   7  8  stream  ;  deny  ;"
                + "  ", 2).hasRule(0, 1, 2, 3, 4, 5, 6, 7, 8, 0, 1, 0);
        faulty("no blank within a word", "de ny;", 0);
        faulty("no blank within a word", "deny fr om 1;", 5);
        faulty("no blank within a word", "deny str eam;", 5);
        faulty("no blank within a number", "deny from 0 6;", 12);
        faulty("no blank within a number", "deny src 1 2 3 1;", 13);
        right("a blank between two numbers, which makes them two", "deny src 1 2;", 1);
    }

    private static void blanksNeeded() {
        new Run("Texts: 'they are needed only between two words or two numbers'").reads("allow from1to2src3 4dst5 6port7 8stream;"
                + "deny;", 2).hasRule(0, 1, 2, 3, 4, 5, 6, 7, 8, 0, 1, 0)
                .reads("deny stream;allow single to06from0;", 2).hasRule(1, 0, 6, 0, 31, 0, 31, 0, 15, 1, 1, 0);
        faulty("a blank is needed between two words", "denyfrom1;", 0);
        faulty("a blank is needed between two numbers", "deny src12;", 10);
        right("no blank is needed", "deny src1 2;", 1);
    }

    // ---- promise 26: every byte at some place

    private interface Due {
        int at(int c);
    }

    private static void everyByte(String place, String head, String tail, Due due) {
        for (int c = 0; c <= 127; c++) {
            new Run("Texts: 'the first byte that cannot stand at its place', byte " + c + " " + place).reads(head + (char) c + tail, due.at(c));
        }
    }

    private static boolean isLetter(int c) {
        return c >= 97 && c <= 122;
    }

    private static boolean isDigit(int c) {
        return c >= 48 && c <= 57;
    }

    private static void everyByteAtTheStart() {
        everyByte("before a rule", "", "deny;", c -> c == 32 ? 1 : fault(0));
        everyByte("before the second rule", "deny;", "deny;", c -> c == 32 ? 2 : fault(5));
    }

    private static void everyByteBehindAWord() {
        everyByte("behind deny", "deny", ";", c -> c == 32 ? 1 : c == 59 ? fault(5) : isLetter(c) ? fault(0) : fault(4));
        everyByte("behind stream", "deny stream", ";", c -> c == 32 ? 1 : c == 59 ? fault(12) : isLetter(c) ? fault(5) : fault(11));
    }

    private static void everyByteBehindANumber() {
        everyByte("behind a digit", "deny from 0", ";", c -> c == 32 || c >= 48 && c <= 54 ? 1 : c == 59 ? fault(12) : isDigit(c) ? fault(10) : fault(11));
        everyByte("behind two digits", "deny from 06", ";", c -> c == 32 ? 1 : c == 59 ? fault(13) : fault(12));
        everyByte("behind the first of two numbers", "deny src 1", "2;", c -> c == 32 ? 1 : isDigit(c) ? fault(11) : fault(10));
    }

    private static void everyByteForANumber() {
        everyByte("where a zone is due", "deny from ", ";", c -> c >= 48 && c <= 54 ? 1 : c == 32 ? fault(11) : fault(10));
        everyByte("where a port is due", "deny port 1 ", ";", c -> isDigit(c) ? 1 : c == 32 ? fault(13) : fault(12));
    }

    private static void everyByteBehindARule() {
        everyByte("behind a rule", "deny;", "", c -> c == 32 ? 1 : fault(5));
        everyByte("behind the first word", "deny ", "", c -> c == 59 ? 1 : c == 32 ? fault(6) : fault(5));
    }

    private static void everyByteInAWord() {
        everyByte("within a word", "de", "ny;", c -> fault(0));
        everyByte("for the last letter of a word", "den", ";", c -> c == 121 ? 1 : fault(0));
    }

    // ---- promise 26: faults

    private static void wrongWords() {
        faulty("'for a word that cannot stand there (unknown ..) its first letter'", "deny xyz;", 5);
        faulty("'for a word that cannot stand there (.. given already ..) its first letter'", "deny to 1 to 2;", 10);
        faulty("'for a word that cannot stand there (.. stream and single both) its first letter'", "deny single stream;", 12);
        faulty("a word where a number is due", "deny from stream;", 10);
        faulty("a word where the second number is due", "deny src 1 stream;", 11);
        faulty("an action where a part is due", "deny allow;", 5);
        faulty("a word behind all parts", "deny from 1 to 1 src 1 2 dst 1 2 port 1 2 stream x;", 49);
    }

    private static void wrongNumbers() {
        String sentence = "'for a number out of its range its first digit'";
        faulty(sentence, "deny from 7;", 10);
        faulty(sentence, "deny from   7;", 12);
        faulty(sentence, "deny to10;", 7);
        faulty(sentence, "deny src 32 0;", 9);
        faulty(sentence, "deny src 31 32;", 12);
        faulty(sentence, "deny dst 0 99;", 11);
        faulty(sentence, "deny port 15 16;", 13);
        faulty(sentence + ", and more wrong behind it", "deny from 7x;", 10);
        faulty("a number where a word is due", "deny 1;", 5);
        faulty("a number where an action is due", "1 deny;", 0);
        faulty("a number behind a sort", "deny stream 1;", 12);
    }

    /** A text is cut behind each of its bytes: within a word it ends with a wrong word. */
    private static void endsTooEarly() {
        String whole = "allow from 1 to 02 src 13 24 dst 5 31 port 07 15 stream;";
        right("the whole text", whole, 1);
        for (int n = 1; n < whole.length(); n++) {
            boolean within = isLetter(whole.charAt(n - 1)) && isLetter(whole.charAt(n));
            int start = n - 1;
            while (start > 0 && isLetter(whole.charAt(start - 1))) {
                start--;
            }
            faulty("'the length of the text if it ends too early'", whole.substring(0, n), within ? start : n);
        }
        faulty("'the length of the text if it ends too early', behind a rule", "deny;allow", 10);
        faulty("'the length of the text if it ends too early', behind blanks", "deny   ", 7);
        faulty("'the length of the text if it ends too early', in the twelfth rule", "deny;".repeat(11) + "deny", 59);
    }

    /** Read as: such a word or number counts as a wrong one, and not as a text that ends too early. */
    private static void wrongAtTheEnd() {
        String sentence = "'(a wrong word or number at the end counts as such)'";
        faulty(sentence, "x", 0);
        faulty(sentence, "den", 0);
        faulty(sentence, "denyy", 0);
        faulty(sentence, "deny stre", 5);
        faulty(sentence, "deny deny", 5);
        faulty(sentence, "deny to 1 to", 10);
        faulty(sentence, "deny stream single", 12);
        faulty(sentence, "deny from to", 10);
        faulty(sentence, "deny from 7", 10);
        faulty(sentence, "deny src 32", 9);
        faulty(sentence, "deny src 1 99", 11);
        faulty(sentence, "deny port 16", 10);
        faulty("a right number at the end, which the text ends behind too early", "deny from 6", 11);
        faulty("a right number at the end, which the text ends behind too early", "deny port 15", 12);
    }

    private static void firstFault() {
        faulty("'the first byte that cannot stand at its place', of two faults", "deny from 7; deny to 9;", 10);
        faulty("'the first byte that cannot stand at its place', in the second rule", "deny from 6; deny to 9;", 21);
        faulty("'the first byte that cannot stand at its place', a sign", "deny; ;", 6);
        faulty("'the first byte that cannot stand at its place', the first", ";", 0);
    }

    private static void faultChangesNothing() {
        String before = "rule(0, 1) = 1; rule(1, 2) = 2; keeps() = 2; letter(1, 2, 3, 0, 0) = 1; sets(1, 6, 4) = 0";
        for (String text : new String[] {"x", "deny", "deny;allow;reject from 9;", ";", "deny;".repeat(13)}) {
            int at = text.equals("deny") ? 4 : text.startsWith("deny;allow") ? 23 : text.length() > 60 ? 60 : 0;
            new Run("Promise 26: '-10 - (the fault) if the text has a fault (this is not counted as an error)'").does(before).types(text)
                    .asks("reads() = " + fault(at)).does("told(0) = 0; told(1) = 0; told(2) = 0; told(4) = 5; count(0) = 2; of(0, 10) = 1;"
                    + " of(1, 6) = 4");
        }
        new Run("States: 'reads (without a fault)' remembers, with a fault it does not").types("deny")
                .does("reads() = -14; told(4) = 0; type(59) = 5; reads() = 1; told(4) = 1; type(59) = 6; reads() = -15; told(4) = 1");
    }

    private static void readsReplaces() {
        new Run("Promise 26: 'Replaces the rules by those of the text, with 0 hits'")
                .does("rule(0, 2) = 1; rule(0, 2) = 2; letter(0, 0, 0, 0, 0) = 2; of(0, 10) = 1").reads("reject;", 1)
                .does("count(0) = 1; of(0, 10) = 0; letter(0, 0, 0, 0, 0) = 2; of(0, 10) = 1; reads() = 1; of(0, 10) = 0");
        new Run("Promise 26: 'Replaces the rules', by none").does("rule(0, 2) = 1; reads() = 0; count(0) = 0").fails(BAD, "of(0, 0)");
        new Run("Promise 26: 'The text stays.'").reads("deny;", 1).does("told(3) = 5; reads() = 1; told(3) = 5; type(32) = 6; reads() = 1;"
                + " back() = 2; told(3) = 6; clear() = 6");
        new Run("Promise 26: the kept rules stay").does("rule(0, 1) = 1; keeps() = 1").reads("deny;deny;", 2).does("takes() = 1; of(0, 9) = 1");
        new Run("Promise 26: flows stay").does("rule(0, 1) = 1; letter(3, 5, 2, 0, 0) = 1").reads("deny;", 1)
                .does("count(1) = 1; letter(5, 3, 2, 0, 1) = 1; cuts() = 1");
    }
}
