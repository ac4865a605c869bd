/**
 * Promises 10 and 11, and the sentences under TEXTS: a test for each sentence, at its edges.
 * The first remark of a test names the promise and the sentence; SentencesTest compares it with the document.
 */
public final class TextsEdgesTest {
    private static final int LAST_SIGN = 0xffff;
    /** Signs beyond 255 that end with the bits of, or look like, a digit, a letter, "," and "=". */
    private static final int[] FAR_SIGNS = {256, 300, 0x0130, 0x0131, 0x0141, 0x0144, 0x012c, 0x013b, 0x013d, 0x0660,
        0xff10, 0xff21, 0xff0c, 0xff1d, 0xd800, 0xdfff, LAST_SIGN};
    /** Two rows of eight numbers that have 60 characters together. */
    private static final String SIXTY = "100,101,102,103,104,105,106,107;200,201,202,203,204,10,11,12";

    private static final Due DUE = new Due("TextsEdgesTest");

    public static void main(String[] args) {
        typeAnyCharacter();
        typeBehindTheText();
        typeReturnsTheLength();
        typeWhenFull();
        typeWhenItIsNoLongerFull();
        textIsEmptyAtFirst();
        textOfSixtyCharacters();
        clearTextReturnsTheLength();
        clearTextEmptiesTheText();
        numbersOfOneToThreeDigits();
        zerosInFront();
        theSingleZero();
        rowsOfAsManyNumbers();
        rowOfOneNumber();
        faultsInRowsOfTables();
        faultsInRowsOfLeaves();
        faultsInFormulas();
        faultAtTheFirstCharacter();
        faultAtTheLastCharacter();
        faultIsTheFirstOne();
        textsThatEndTooEarly();
        rowsThatEndTooEarly();
        theEmptyText();
        theFullTextThatEndsTooEarly();
        formulas();
        DUE.finish();
    }

    // ---- promises 10 and 11

    /** Promise 10: "character: any character". The least and the greatest one too, and no two are taken for one. */
    private static void typeAnyCharacter() {
        DUE.promise("promise 10, any character");
        for (int sign = 0; sign < 300; sign++) {
            takes((char) sign);
        }
        for (int sign : FAR_SIGNS) {
            takes((char) sign);
        }
    }

    private static void takes(char sign) {
        BlockRanks x = new BlockRanks();
        DUE.is("type((char) " + (int) sign + ")", x.type(sign), 1);
        DUE.is("count(4)", x.count(4), 1);
        DUE.is("a formula's first letter?", x.work(), sign >= 'A' && sign <= 'D' ? -101 : -100);
        DUE.is("a row's first digit?", x.times(0, 0), sign >= '0' && sign <= '9' ? -101 : -100);
    }

    /** Promise 10: "Types a character behind the text." Not in front of it, and not in place of the last one. */
    private static void typeBehindTheText() {
        DUE.promise("promise 10, behind the text");
        BlockRanks x = new BlockRanks();
        Due.fillDiagonal(x, 0);
        String row = "1,23,45,6,78,90,0,12";
        int[] numbers = {1, 23, 45, 6, 78, 90, 0, 12};
        for (int i = 0; i < row.length(); i++) {
            x.type(row.charAt(i));
        }
        for (int place = 0; place < 8; place++) {
            DUE.is("the number at " + place, x.times(0, place), numbers[place]);
        }
        x.type(',');
        DUE.is("a comma behind it", x.times(0, 0), -100 - row.length());
    }

    /** Promise 10: "Returns the length of the text then". From 1 to 60. */
    private static void typeReturnsTheLength() {
        DUE.promise("promise 10, the length then");
        BlockRanks x = new BlockRanks();
        for (int length = 1; length <= 60; length++) {
            DUE.is("type", x.type((char) (length * 1000)), length);
            DUE.is("count(4)", x.count(4), length);
        }
    }

    /** Promise 10: "FULL if it has 60 characters". Any character then, and no character of the text is changed. */
    private static void typeWhenFull() {
        DUE.promise("promise 10, it has 60 characters");
        BlockRanks x = new BlockRanks();
        x.setPrime(251);
        Due.write(x, SIXTY.substring(0, 59));
        DUE.is("the last one", x.type('2'), 60);
        for (char sign : new char[] {'2', ',', 'A', 0, (char) LAST_SIGN}) {
            DUE.is("one more", x.type(sign), BlockRanks.FULL);
            DUE.is("count(4)", x.count(4), 60);
        }
        DUE.is("it is read as it was", x.addProduct(0, 0), 1);
        DUE.is("the first cell", x.cell(0, 0, 0), 100 * 200 % 251);
        DUE.is("the last cell", x.cell(0, 7, 7), 107 * 12 % 251);
    }

    /** Promise 10: "FULL if it has 60 characters". It has none after clearText(). */
    private static void typeWhenItIsNoLongerFull() {
        DUE.promise("promise 10, it no longer has 60 characters");
        BlockRanks x = new BlockRanks();
        Due.write(x, SIXTY);
        DUE.is("full", x.type('1'), BlockRanks.FULL);
        x.clearText();
        DUE.is("not full", x.type('1'), 1);
        for (int length = 2; length <= 60; length++) {
            DUE.is("type", x.type('1'), length);
        }
        DUE.is("full again", x.type('1'), BlockRanks.FULL);
    }

    /** Promise 10, TEXTS: "There is a text of at most 60 characters, empty at first." */
    private static void textIsEmptyAtFirst() {
        DUE.promise("promise 10, empty at first");
        BlockRanks x = new BlockRanks();
        DUE.is("count(4)", x.count(4), 0);
        DUE.is("work()", x.work(), -100);
        DUE.is("clearText()", x.clearText(), 0);
        DUE.is("the first character's place", x.type('A'), 1);
    }

    /** Promise 4, TEXTS: "There is a text of at most 60 characters". One of 60 is read to its end. */
    private static void textOfSixtyCharacters() {
        DUE.promise("promise 4, 60 characters");
        BlockRanks x = new BlockRanks();
        x.setPrime(251);
        Due.write(x, SIXTY);
        DUE.is("count(4)", x.count(4), 60);
        DUE.is("addProduct(3, 0)", x.addProduct(3, 0), 1);
        int[] second = {200, 201, 202, 203, 204, 10, 11, 12};
        for (int i = 0; i < 64; i++) {
            DUE.is("cell " + i, x.cell(3, i / 8, i % 8), (100 + i / 8) * second[i % 8] % 251);
        }
    }

    /** Promise 11: "Returns the length that it had". 0, 1 and 60. */
    private static void clearTextReturnsTheLength() {
        DUE.promise("promise 11, the length that it had");
        BlockRanks x = new BlockRanks();
        DUE.is("empty", x.clearText(), 0);
        x.type('A');
        DUE.is("one", x.clearText(), 1);
        Due.write(x, SIXTY);
        DUE.is("full", x.clearText(), 60);
        Due.write(x, SIXTY);
        x.type('A');
        DUE.is("full, and one that was refused", x.clearText(), 60);
        DUE.is("empty again", x.clearText(), 0);
    }

    /** Promise 11: "Empties the text." Nothing of it is read then. */
    private static void clearTextEmptiesTheText() {
        DUE.promise("promise 11, empties the text");
        BlockRanks x = new BlockRanks();
        Due.write(x, "A=B+C");
        x.clearText();
        DUE.is("count(4)", x.count(4), 0);
        DUE.is("work()", x.work(), -100);
        DUE.is("times(0, 0)", x.times(0, 0), -100);
        x.type('A');
        DUE.is("a shorter text ends too early", x.work(), -101);
        x.type('=');
        x.type('D');
        DUE.is("it is read to its own end", x.work(), 0);
    }

    // ---- numbers and rows

    private static String rowBut(int place, String number) {
        StringBuilder row = new StringBuilder();
        for (int i = 0; i < 8; i++) {
            row.append(i == 0 ? "" : ",").append(i == place ? number : "1");
        }
        return row.toString();
    }

    /** What times answers with the number at the place of a row, in a table that has 1 on its diagonal. */
    private static int timesWith(int place, String number) {
        BlockRanks x = new BlockRanks();
        x.setPrime(251);
        Due.fillDiagonal(x, 0);
        Due.write(x, rowBut(place, number));
        return x.times(0, place);
    }

    /** Promise 20, TEXTS: "A number is one to three digits". None, four and five are faults, at each place of a row. */
    private static void numbersOfOneToThreeDigits() {
        DUE.promise("promise 20, one to three digits");
        for (int place = 0; place < 8; place++) {
            int start = 2 * place;
            DUE.is("no digit", timesWith(place, ""), -100 - start);
            DUE.is("one digit", timesWith(place, "7"), 7);
            DUE.is("two digits", timesWith(place, "10"), 10);
            DUE.is("three digits", timesWith(place, "250"), 250);
            DUE.is("three digits, not less than p", timesWith(place, "999"), BlockRanks.BAD_VALUE);
            DUE.is("four digits", timesWith(place, "1000"), -100 - start - 3);
            DUE.is("four digits again", timesWith(place, "2501"), -100 - start - 3);
            DUE.is("five digits", timesWith(place, "10000"), -100 - start - 3);
            DUE.is("as many as there is room for", timesWith(place, "1".repeat(45)), -100 - start - 3);
        }
    }

    /** Promise 20, TEXTS: "without a zero in front". The fault is what stands behind the zero. */
    private static void zerosInFront() {
        DUE.promise("promise 20, without a zero in front");
        for (int place = 0; place < 8; place++) {
            for (String number : new String[] {"00", "01", "09", "000", "001", "010", "0000"}) {
                DUE.is("the number " + number, timesWith(place, number), -100 - 2 * place - 1);
            }
            DUE.is("a zero that is not in front", timesWith(place, "10"), 10);
            DUE.is("two of them", timesWith(place, "100"), 100);
            DUE.is("one between", timesWith(place, "101"), 101);
        }
    }

    /** Promise 20, TEXTS: "(unless it is the single digit 0)". */
    private static void theSingleZero() {
        DUE.promise("promise 20, the single digit 0");
        for (int place = 0; place < 8; place++) {
            DUE.is("the number 0", timesWith(place, "0"), 0);
            DUE.is("0 and the end of another number", timesWith(place, "0x"), -100 - 2 * place - 1);
        }
        BlockRanks x = new BlockRanks();
        Due.write(x, "0,0,0,0,0,0,0,0;0,0,0,0,0,0,0,0");
        DUE.is("zeros alone", x.addProduct(0, 0), 0);
    }

    /** Promise 20, TEXTS: "A row of n numbers is n numbers with". From none to ten numbers where eight are wanted. */
    private static void rowsOfAsManyNumbers() {
        DUE.promise("promise 20, a row of n numbers");
        for (int numbers = 0; numbers <= 10; numbers++) {
            BlockRanks x = new BlockRanks();
            Due.write(x, numbers == 0 ? "" : "5" + ",5".repeat(numbers - 1));
            int fault = numbers < 8 ? Math.max(0, 2 * numbers - 1) : 15;
            DUE.is(numbers + " numbers", x.times(0, 0), numbers == 8 ? 0 : -100 - fault);
            x.type(',');
            DUE.is(numbers + " numbers and a comma", x.times(0, 0), -100 - (numbers == 0 ? 0 : Math.min(2 * numbers, 15)));
        }
    }

    /** Promise 4, TEXTS: "A row of n numbers is n numbers with". One number is a row without a comma. */
    private static void rowOfOneNumber() {
        DUE.promise("promise 4, a row of one number");
        String[] texts = {"5;7", "5,;7", "5;7,", "5,7", ",5;7", "5;,7", "5;7;", "5", ";7"};
        int[] answers = {1, -101, -103, -101, -100, -102, -103, -101, -100};
        for (int i = 0; i < texts.length; i++) {
            BlockRanks x = new BlockRanks();
            Due.splitAll(x, 0);
            Due.write(x, texts[i]);
            DUE.is("with '" + texts[i] + "'", x.addProduct(0, 63), answers[i]);
        }
    }

    // ---- faults

    /** What is asked with a text. */
    private interface Question {
        int of(BlockRanks x);
    }

    /** Types each sign behind the text: those that are allowed there are no fault, all others are one at that place. */
    private static void isAllowed(String text, String allowed, Question question) {
        for (int sign = 0; sign < 300 + FAR_SIGNS.length; sign++) {
            char next = (char) (sign < 300 ? sign : FAR_SIGNS[sign - 300]);
            BlockRanks x = new BlockRanks();
            x.split(0, 0);
            x.split(0, 0);
            Due.write(x, text + next);
            int answer = question.of(x);
            String what = "'" + text + "' and the sign " + (int) next;
            if (allowed.indexOf(next) < 0) {
                DUE.is(what, answer, -100 - text.length());
            } else {
                DUE.holds(what + " is no fault there", answer >= BlockRanks.BAD_VALUE || answer == -101 - text.length());
            }
        }
    }

    /**
     * Promise 20, TEXTS: "The fault of the text is the index, from 0, of the first character that is not allowed at its
     * place". Each sign at each kind of place in a row of 8 numbers.
     */
    private static void faultsInRowsOfTables() {
        DUE.promise("promise 20, not allowed at its place");
        String digits = "0123456789";
        Question times = x -> x.times(0, 0);
        isAllowed("", digits, times);
        isAllowed("0", ",", times);
        isAllowed("1", digits + ",", times);
        isAllowed("10", digits + ",", times);
        isAllowed("100", ",", times);
        isAllowed("1,", digits, times);
        isAllowed("1,0", ",", times);
        isAllowed("1,2,3,4,5,6,7", digits + ",", times);
        isAllowed("1,2,3,4,5,6,7,", digits, times);
        isAllowed("1,2,3,4,5,6,7,0", "", times);
        isAllowed("1,2,3,4,5,6,7,1", digits, times);
        isAllowed("1,2,3,4,5,6,7,10", digits, times);
        isAllowed("1,2,3,4,5,6,7,100", "", times);
        DUE.promise("promise 21, not allowed at its place");
        Question solve = x -> x.solve(1, 0) == BlockRanks.NOT_POSSIBLE ? 0 : x.solve(1, 0);
        isAllowed("", digits, solve);
        isAllowed("1", digits + ",", solve);
        isAllowed("1,", digits, solve);
        isAllowed("1,2,3,4,5,6,7,0", "", solve);
        isAllowed("1,2,3,4,5,6,7,10", digits, solve);
    }

    /**
     * Promise 4, TEXTS: "The fault of the text is the index, from 0, of the first character that is not allowed at its
     * place". Each sign at each kind of place in two rows of two numbers.
     */
    private static void faultsInRowsOfLeaves() {
        DUE.promise("promise 4, not allowed at its place");
        String digits = "0123456789";
        Question addProduct = x -> x.addProduct(0, 0);
        isAllowed("", digits, addProduct);
        isAllowed("0", ",", addProduct);
        isAllowed("1", digits + ",", addProduct);
        isAllowed("1,", digits, addProduct);
        isAllowed("1,0", ";", addProduct);
        isAllowed("1,2", digits + ";", addProduct);
        isAllowed("1,100", ";", addProduct);
        isAllowed("1,2;", digits, addProduct);
        isAllowed("1,2;0", ",", addProduct);
        isAllowed("1,2;3", digits + ",", addProduct);
        isAllowed("1,2;100", ",", addProduct);
        isAllowed("1,2;3,", digits, addProduct);
        isAllowed("1,2;3,0", "", addProduct);
        isAllowed("1,2;3,4", digits, addProduct);
        isAllowed("1,2;3,100", "", addProduct);
    }

    /**
     * Promise 5, TEXTS: "The fault of the text is the index, from 0, of the first character that is not allowed at its
     * place". Each sign at each place in a formula.
     */
    private static void faultsInFormulas() {
        DUE.promise("promise 5, not allowed at its place");
        Question work = BlockRanks::work;
        isAllowed("", "ABCD", work);
        isAllowed("A", "=", work);
        isAllowed("D=", "ABCD", work);
        isAllowed("A=B", "+-*'", work);
        isAllowed("A=B+", "ABCD", work);
        isAllowed("A=B-", "ABCD", work);
        isAllowed("A=B*", "ABCD", work);
        isAllowed("A=B'", "", work);
        isAllowed("A=B+C", "", work);
        isAllowed("A=B-C", "", work);
        isAllowed("D=D*D", "", work);
    }

    /** Promise 5, TEXTS: "the index, from 0, of the first character". A fault at the first character is the fault 0. */
    private static void faultAtTheFirstCharacter() {
        DUE.promise("promise 5, from 0");
        for (String text : new String[] {"E=A+B", "=A", "'", "1,2;3,4", " "}) {
            BlockRanks x = new BlockRanks();
            Due.write(x, text);
            DUE.is("work() with '" + text + "'", x.work(), -100);
        }
        for (String text : new String[] {"x,2,3,4,5,6,7,8", ",", ";1", "A=B", " 1"}) {
            BlockRanks x = new BlockRanks();
            Due.write(x, text);
            DUE.is("times(0, 0) with '" + text + "'", x.times(0, 0), -100);
            DUE.is("solve(0, 0) with '" + text + "'", x.solve(0, 0), -100);
            DUE.is("addProduct(0, 0) with '" + text + "'", x.addProduct(0, 0), -100);
        }
    }

    /** Promise 4, TEXTS: "the index, from 0, of the first character". The last one of 60 has the index 59. */
    private static void faultAtTheLastCharacter() {
        DUE.promise("promise 4, the last character");
        BlockRanks x = new BlockRanks();
        x.setPrime(251);
        Due.write(x, SIXTY.substring(0, 59) + "x");
        DUE.is("the sixtieth", x.addProduct(0, 0), -159);
        Due.write(x, SIXTY.substring(0, 58) + "x2");
        DUE.is("the one before", x.addProduct(0, 0), -158);
        Due.write(x, "1".repeat(60));
        DUE.is("sixty digits", x.addProduct(0, 0), -103);
    }

    /** Promise 4, TEXTS: "of the first character that is not allowed at its place". Not of a later one. */
    private static void faultIsTheFirstOne() {
        DUE.promise("promise 4, the first character");
        BlockRanks x = new BlockRanks();
        x.split(0, 0);
        x.split(0, 0);
        Due.write(x, "1,x;y,4,5");
        DUE.is("three faults", x.addProduct(0, 0), -102);
        Due.write(x, "1;2;3,4");
        DUE.is("a row that is too short", x.addProduct(0, 0), -101);
        Due.write(x, "1,2,3;4");
        DUE.is("a row that is too long", x.addProduct(0, 0), -103);
        Due.write(x, "1,2;3,4,5,6");
        DUE.is("two numbers behind the end", x.addProduct(0, 0), -107);
        Due.write(x, "A=B'+C");
        DUE.is("two signs behind the end", x.work(), -104);
        Due.write(x, "E-F/");
        DUE.is("nothing is right", x.work(), -100);
        Due.write(x, "A=F/");
        DUE.is("the second half", x.work(), -102);
    }

    /**
     * Promise 5, TEXTS: "or the length of the text if it ends too early". A formula, after each character of the longest
     * one; where it may end there it is no fault.
     */
    private static void textsThatEndTooEarly() {
        DUE.promise("promise 5, it ends too early");
        int[] answers = {-100, -101, -102, 2, -104, 2};
        for (int length = 0; length <= 5; length++) {
            BlockRanks x = new BlockRanks();
            Due.write(x, "C=A*B".substring(0, length));
            DUE.is("length " + length, x.work(), answers[length]);
        }
    }

    /** Promise 20, TEXTS: "or the length of the text if it ends too early". A row, after each of its characters. */
    private static void rowsThatEndTooEarly() {
        DUE.promise("promise 20, it ends too early");
        String row = "0,10,200,3,40,50,6,70";
        for (int length = 0; length <= row.length(); length++) {
            BlockRanks x = new BlockRanks();
            Due.fillDiagonal(x, 0);
            x.setPrime(251);
            Due.write(x, row.substring(0, length));
            // Behind the first digit of the last number the row may end.
            boolean isWhole = length > row.length() - 2;
            DUE.is("times, length " + length, x.times(0, 7), isWhole ? length == row.length() ? 70 : 7 : -100 - length);
            DUE.is("solve, length " + length, x.solve(0, 7), isWhole ? length == row.length() ? 70 : 7 : -100 - length);
        }
        DUE.promise("promise 4, it ends too early");
        for (int length = 0; length <= SIXTY.length(); length++) {
            BlockRanks x = new BlockRanks();
            x.setPrime(251);
            Due.write(x, SIXTY.substring(0, length));
            DUE.is("addProduct, length " + length, x.addProduct(0, 0), length > SIXTY.length() - 2 ? 1 : -100 - length);
        }
    }

    /** Promise 4, TEXTS: "(the empty text does)". For each call that reads the text, in leaves of each size. */
    private static void theEmptyText() {
        DUE.promise("promise 4, the empty text");
        BlockRanks x = new BlockRanks();
        x.split(0, 0);
        x.split(0, 0);
        x.split(0, 0);
        for (int leaf : new int[] {0, 4, 9}) {
            DUE.is("addProduct(0, " + leaf + ")", x.addProduct(0, leaf), -100);
        }
        DUE.is("addProduct(1, 0)", x.addProduct(1, 0), -100);
        DUE.is("work()", x.work(), -100);
        DUE.is("times(0, 0)", x.times(0, 0), -100);
        DUE.is("solve(0, 0)", x.solve(0, 0), -100);
        Due.write(x, "1;2");
        x.clearText();
        DUE.is("cleared", x.addProduct(0, 0), -100);
    }

    /** Promise 4, TEXTS: "or the length of the text if it ends too early". The full text can end too early too. */
    private static void theFullTextThatEndsTooEarly() {
        DUE.promise("promise 4, the full text");
        BlockRanks x = new BlockRanks();
        x.setPrime(251);
        Due.write(x, "100,101,102,103,104,105,106,107;200,201,202,203,204,205,206,");
        DUE.is("count(4)", x.count(4), 60);
        DUE.is("addProduct(0, 0)", x.addProduct(0, 0), -160);
        DUE.is("no room for the last number", x.type('1'), BlockRanks.FULL);
        DUE.is("addProduct(0, 0)", x.addProduct(0, 0), -160);
    }

    /** Promise 5, TEXTS: "A formula is a letter A to D". All formulas that there are. */
    private static void formulas() {
        DUE.promise("promise 5, all formulas");
        String[] ends = {"", "'", "+A", "+B", "+C", "+D", "-A", "-B", "-C", "-D", "*A", "*B", "*C", "*D"};
        int[] numbers = {2, 3, 5, 7};
        for (int target = 0; target < 4; target++) {
            for (int left = 0; left < 4; left++) {
                for (String end : ends) {
                    BlockRanks x = new BlockRanks();
                    for (int table = 0; table < 4; table++) {
                        x.set(table, 0, 0, numbers[table]);
                    }
                    String formula = (char) ('A' + target) + "=" + (char) ('A' + left) + end;
                    int right = end.length() == 2 ? numbers[end.charAt(1) - 'A'] : 0;
                    int want = numbers[left];
                    if (end.startsWith("*")) {
                        want *= right;
                    } else {
                        want += end.startsWith("-") ? 101 - right : right;
                    }
                    Due.write(x, formula);
                    DUE.is(formula, x.work(), target);
                    DUE.is(formula + ", the cell", x.cell(target, 0, 0), want % 101);
                }
            }
        }
    }
}
