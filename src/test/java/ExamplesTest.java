/** The four examples of the document, word by word. */
public final class ExamplesTest {
    public static void main(String[] args) {
        new Run("example 1").does("rule(0, 1) = 1; sets(0, 7, 3) = 15; rule(1, 2) = 2;"
                + "decides(0, 1, 3, 0) = 0; decides(0, 1, 4, 1) = 1; cases(0, 0) = 8192; cases(1, 1) = 32768;"
                + "idle(0, 1) = 0; contradicts(0, 1) = 8192; all(2) = 24576; moves(0, 1) = 0; idle(1, 0) = 1;"
                + "of(1, 7) = 3; keeps() = 2; drops(0) = 1; change(0) = 32768");
        new Run("example 2").does("rule(0, 1) = 1; letter(3, 5, 2, 0, 0) = 1; letter(5, 3, 2, 0, 1) = 1;"
                + "letter(5, 3, 2, 0, 2) = 3; letter(3, 5, 2, 0, 2) = 1; flow(0, 4) = 3; flow(0, 5) = 40;"
                + "announces(0, 0, 9) = 1; letter(5, 3, 9, 0, 0) = 1; count(2) = 0; letter(3, 5, 2, 0, 3) = 1;"
                + "flow(0, 6) = 0; ticks(10) = 0; count(1) = 0; count(9) = 2; back() = 4");
        new Run("example 3").does("zone(2, 4, 9) = 6; zone(2, 9, 10) = 1; zoneOf(10) = 2; zone(2, 9, 8) = -2;"
                + "type(100) = 1; type(101) = 2; type(110) = 3; type(121) = 4; reads() = -14; type(59) = 5;"
                + "reads() = 1; all(0) = 32768; letter(0, 0, 0, 1, 2) = 0; of(0, 10) = 1; told(0) = 1; told(4) = 4");
        new Run("example 4").does("rule(0, 2) = 1; letter(1, 2, 0, 1, 2) = 2; letter(1, 2, 0, 1, 0) = 3;"
                + "sets(0, 9, 1) = 2; letter(1, 2, 0, 1, 2) = 1; letter(2, 1, 0, 1, 2) = 1; flow(0, 4) = 7;"
                + "sets(0, 9, 0) = 1; cuts() = 1; count(6) = 1; count(7) = 1; takes() = 0; change(1) = -1;"
                + "span(8, 1) = -2; span(6, 2) = 8; digest() = 1555329134256745276");
        Run.end();
    }
}
