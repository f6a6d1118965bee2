import java.util.function.Consumer;

/** The boundary cases of promises 27 to 34: sheets, counts, the digest. */
public final class BoundsSheetTest {
    private static final int LEAST = Due.LEAST_INT, GREATEST = Due.GREATEST_INT;

    public static void main(String[] args) throws ReflectiveOperationException {
        Due.each(BoundsSheetTest.class, 27, 34);
    }

    /** Sheet 0 has 6 ints, 10 to 15; sheet 1 has 4 ints, 20 to 23. */
    private static InkSwaths twoOfInts() {
        InkSwaths x = new InkSwaths();
        x.sheet(0, 2, 6);
        x.sheet(1, 2, 4);
        for (int i = 0; i < 6; i++) {
            x.put(0, 2, i, 10 + i);
            x.put(1, 2, i, 20 + i);
        }
        return x;
    }

    private static void items(String name, InkSwaths x, int s, int form, int... due) {
        for (int i = 0; i < due.length; i++) {
            Due.is(name + ": item " + i + " of " + s, x.get(s, form, i), due[i]);
        }
        Due.is(name + ": no item " + due.length + " of " + s, x.get(s, form, due.length), LEAST);
    }

    // ---- promise 27: sheet

    private static void promise27SheetsAre0To3() {
        for (int wrong : Due.outside(0, 3)) {
            Twins.bad("sheet(" + wrong + ", 0, 1)", x -> x.sheet(wrong, 0, 1));
        }
        InkSwaths x = new InkSwaths();
        Due.is("sheet(0, 0, 1)", x.sheet(0, 0, 1), 1);
        Due.is("sheet(3, 0, 2)", x.sheet(3, 0, 2), 2);
        items("sheet 0", x, 0, 0, 0);
        items("sheet 3", x, 3, 0, 0, 0);
        Due.is("the others stay lost", x.lose(1), Due.NULL);
        Due.is("the others stay lost", x.lose(2), Due.NULL);
    }

    private static void promise27FormsAre0To2() {
        for (int wrong : Due.outside(0, 2)) {
            Twins.bad("sheet(0, " + wrong + ", 1)", x -> x.sheet(0, wrong, 1));
            Twins.bad("sheet(3, " + wrong + ", 0)", x -> x.sheet(3, wrong, 0));
        }
        InkSwaths x = new InkSwaths();
        for (int form = 0; form < 3; form++) {
            Due.is("sheet of form " + form, x.sheet(form, form, 1), 1);
            Due.is("put of form " + form, x.put(form, form, 0, 1), 1);
        }
    }

    private static void promise27NotAbove60() {
        Twins.bad("sheet(0, 0, 61)", x -> x.sheet(0, 0, 61));
        Twins.bad("sheet(3, 2, the greatest int)", x -> x.sheet(3, 2, GREATEST));
        for (int form = 0; form < 3; form++) {
            InkSwaths x = new InkSwaths();
            Due.is("60 of form " + form, x.sheet(2, form, 60), 60);
            Due.is("item 59", x.put(2, form, 59, 7), 1);
            Due.is("item 59", x.get(2, form, 59), 7);
            Due.is("item 60", x.put(2, form, 60, 7), Due.INDEX);
            Due.is("lose", x.lose(2), 60);
        }
    }

    private static void promise27NoItems() {
        for (int form = 0; form < 3; form++) {
            InkSwaths x = new InkSwaths();
            Due.is("0 of form " + form, x.sheet(1, form, 0), 0);
            items("no items", x, 1, form);
            Due.is("it is not lost", x.lose(1), 0);
            Due.is("now it is", x.lose(1), Due.NULL);
        }
    }

    private static void promise27SizeBelow0() {
        Twins.finding("sheet(0, 0, -1)", Twins::some, x -> x.sheet(0, 0, -1), Due.SIZE, 5);
        Twins.finding("sheet(2, 1, the least int)", Twins::some, x -> x.sheet(2, 1, LEAST), Due.SIZE, 5);
        Twins.finding("sheet(3, 1, -60) of a lost one", Twins::some, x -> x.sheet(3, 1, -60), Due.SIZE, 5);
        Twins.finding("sheet(3, 2, -1) of a new one", Twins::nothing, x -> x.sheet(3, 2, -1), Due.SIZE, 5);
    }

    private static void promise27BadAheadOfSize() {
        Twins.bad("sheet(4, 0, -1)", x -> x.sheet(4, 0, -1));
        Twins.bad("sheet(-1, 0, -1)", x -> x.sheet(-1, 0, -1));
        Twins.bad("sheet(0, 3, -1)", x -> x.sheet(0, 3, -1));
        Twins.bad("sheet(0, -1, the least int)", x -> x.sheet(0, -1, LEAST));
    }

    /** A new row: nothing is left of what it was, be it longer, shorter or of another FORM. */
    private static void promise27ItemsAre0AtFirst() {
        InkSwaths x = twoOfInts();
        Due.is("as many anew", x.sheet(0, 2, 6), 6);
        items("as many anew", x, 0, 2, 0, 0, 0, 0, 0, 0);
        x.put(1, 2, 3, 9);
        Due.is("shorter", x.sheet(1, 2, 1), 1);
        Due.is("then longer", x.sheet(1, 2, 5), 5);
        items("longer", x, 1, 2, 0, 0, 0, 0, 0);
        x.put(1, 2, 0, 9);
        Due.is("of another form", x.sheet(1, 0, 2), 2);
        items("of another form", x, 1, 0, 0, 0);
        x.put(1, 0, 0, 9);
        x.lose(1);
        Due.is("behind a loss", x.sheet(1, 0, 2), 2);
        items("behind a loss", x, 1, 0, 0, 0);
    }

    // ---- promise 28: lose

    private static void promise28SheetsAre0To3() {
        for (int wrong : Due.outside(0, 3)) {
            Twins.bad("lose(" + wrong + ")", x -> x.lose(wrong));
        }
        InkSwaths x = new InkSwaths();
        x.sheet(0, 0, 4);
        x.sheet(3, 0, 5);
        Due.is("lose(0)", x.lose(0), 4);
        Due.is("lose(3)", x.lose(3), 5);
    }

    private static void promise28NullOfALostOne() {
        for (int lost = 0; lost < 4; lost++) {
            int s = lost;
            Twins.finding("lose(" + s + ")", Twins::nothing, x -> x.lose(s), Due.NULL, 1);
        }
        Twins.finding("lose(3)", Twins::some, x -> x.lose(3), Due.NULL, 1);
        Twins.finding("lose(1) once more", x -> {
            Twins.most(x);
            x.lose(1);
        }, x -> x.lose(1), Due.NULL, 1);
    }

    private static void promise28NoneAnd60Items() {
        InkSwaths x = new InkSwaths();
        x.sheet(0, 2, 0);
        x.sheet(1, 2, 60);
        Due.is("none", x.lose(0), 0);
        Due.is("60", x.lose(1), 60);
        Due.is("count(8)", x.count(8), 0);
        Due.is("lost, not of no items", x.get(0, 2, 0), LEAST);
        Due.is("count(8)", x.count(8), 1);
    }

    // ---- promise 29: put

    private static void promise29SheetsAndForms() {
        for (int wrong : Due.outside(0, 3)) {
            Twins.bad("put(" + wrong + ", 0, 0, 1)", x -> x.put(wrong, 0, 0, 1));
        }
        for (int wrong : Due.outside(0, 2)) {
            Twins.bad("put(0, " + wrong + ", 0, 1)", x -> x.put(0, wrong, 0, 1));
            Twins.bad("put(3, " + wrong + ", -1, 1)", x -> x.put(3, wrong, -1, 1));
        }
    }

    private static void promise29TheFirstAndTheLastItem() {
        InkSwaths x = twoOfInts();
        Due.is("put(1, 2, 0, 8)", x.put(1, 2, 0, 8), 1);
        Due.is("put(1, 2, 3, 9)", x.put(1, 2, 3, 9), 1);
        items("behind", x, 1, 2, 8, 21, 22, 9);
        items("the other", x, 0, 2, 10, 11, 12, 13, 14, 15);
    }

    private static void promise29NoSuchItem() {
        for (int wrong : Due.outside(0, 3)) {
            Twins.finding("put(2, 2, " + wrong + ", 1)", Twins::some, x -> x.put(2, 2, wrong, 1), Due.INDEX, 2);
        }
        for (int wrong : Due.outside(0, 59)) {
            Twins.finding("put(3, 0, " + wrong + ", 1)", Twins::most, x -> x.put(3, 0, wrong, 1), Due.INDEX, 2);
        }
        InkSwaths x = new InkSwaths();
        x.sheet(0, 1, 0);
        Due.is("of no items", x.put(0, 1, 0, 1), Due.INDEX);
    }

    private static void promise29AnotherForm() {
        for (int sheet = 0; sheet < 3; sheet++) {
            for (int treated = 0; treated < 3; treated++) {
                int s = sheet;
                int form = treated;
                if (form != s) {
                    String call = "put(" + s + ", " + form + ", 0, 1)";
                    Twins.finding(call, Twins::some, x -> x.put(s, form, 0, 1), Due.CAST, 3);
                }
            }
        }
    }

    private static void promise29ALostOne() {
        Twins.finding("put(3, 0, 0, 1)", Twins::some, x -> x.put(3, 0, 0, 1), Due.NULL, 1);
        Twins.finding("put(0, 2, 0, 1)", Twins::nothing, x -> x.put(0, 2, 0, 1), Due.NULL, 1);
    }

    private static void promise29TheFirstThatFits() {
        Twins.finding("lost, no item", Twins::some, x -> x.put(3, 0, -1, 1), Due.NULL, 1);
        Twins.finding("lost, of another form than it had, no item", x -> {
            Twins.some(x);
            x.lose(0);
        }, x -> x.put(0, 1, 99, 1), Due.NULL, 1);
        Twins.finding("another form, no item", Twins::some, x -> x.put(0, 1, 99, 1), Due.CAST, 3);
        Twins.finding("another form, below 0", Twins::some, x -> x.put(2, 0, LEAST, 1), Due.CAST, 3);
    }

    /** As many of the lowest bits as it has: what is put and what is got then. */
    private static void promise29TheLowestBits() {
        int[][] bytes = {{127, 127}, {128, -128}, {255, -1}, {256, 0}, {-128, -128}, {-129, 127}, {LEAST, 0}, {GREATEST, -1}};
        int[][] shorts = {{32767, 32767}, {32768, -32768}, {65535, -1}, {65536, 0}, {-32768, -32768}, {-32769, 32767},
            {LEAST, 0}, {GREATEST, -1}, {128, 128}};
        int[][] ints = {{LEAST, LEAST}, {GREATEST, GREATEST}, {65536, 65536}, {-1, -1}, {0, 0}};
        int[][][] forms = {bytes, shorts, ints};
        for (int form = 0; form < 3; form++) {
            InkSwaths x = new InkSwaths();
            x.sheet(0, form, 1);
            for (int[] row : forms[form]) {
                Due.is("put of " + row[0] + " as form " + form, x.put(0, form, 0, row[0]), 1);
                Due.is("get of " + row[0] + " as form " + form, x.get(0, form, 0), row[1]);
            }
            Due.is("no finding", x.count(8), 0);
        }
    }

    // ---- promise 30: get

    private static void promise30SheetsAndForms() {
        for (int wrong : Due.outside(0, 3)) {
            Twins.badAsLeastInt("get(" + wrong + ", 0, 0)", x -> x.get(wrong, 0, 0));
        }
        for (int wrong : Due.outside(0, 2)) {
            Twins.badAsLeastInt("get(0, " + wrong + ", 0)", x -> x.get(0, wrong, 0));
            Twins.badAsLeastInt("get(3, " + wrong + ", -1)", x -> x.get(3, wrong, -1));
        }
    }

    private static void promise30TheFirstAndTheLastItem() {
        InkSwaths x = new InkSwaths();
        Twins.most(x);
        Due.is("get(0, 2, 0)", x.get(0, 2, 0), 40);
        Due.is("get(0, 2, 59)", x.get(0, 2, 59), 100);
        Due.is("get(3, 0, 0)", x.get(3, 0, 0), 43);
        Due.is("get(3, 0, 59)", x.get(3, 0, 59), 103);
        Due.is("what is right is no finding", x.count(8), 5);
    }

    private static void promise30NoSuchItem() {
        for (int wrong : Due.outside(0, 3)) {
            Twins.finding("get(2, 2, " + wrong + ")", Twins::some, x -> x.get(2, 2, wrong), LEAST, 2);
        }
        for (int wrong : Due.outside(0, 59)) {
            Twins.finding("get(3, 0, " + wrong + ")", Twins::most, x -> x.get(3, 0, wrong), LEAST, 2);
        }
        Twins.finding("get of no items", x -> x.sheet(0, 1, 0), x -> x.get(0, 1, 0), LEAST, 2);
    }

    private static void promise30AnotherFormAndALostOne() {
        Twins.finding("get(0, 1, 0)", Twins::some, x -> x.get(0, 1, 0), LEAST, 3);
        Twins.finding("get(1, 2, 0)", Twins::some, x -> x.get(1, 2, 0), LEAST, 3);
        Twins.finding("get(2, 0, 0)", Twins::some, x -> x.get(2, 0, 0), LEAST, 3);
        Twins.finding("get(3, 0, 0)", Twins::some, x -> x.get(3, 0, 0), LEAST, 1);
        Twins.finding("get(0, 2, 0)", Twins::nothing, x -> x.get(0, 2, 0), LEAST, 1);
    }

    private static void promise30TheFirstThatFits() {
        Twins.finding("lost, no item", Twins::some, x -> x.get(3, 0, 60), LEAST, 1);
        Twins.finding("lost, of another form than it had, no item", x -> {
            Twins.some(x);
            x.lose(0);
        }, x -> x.get(0, 1, -1), LEAST, 1);
        Twins.finding("another form, no item", Twins::some, x -> x.get(0, 1, 60), LEAST, 3);
    }

    /** An item that is the least int is got without a finding. */
    private static void promise30TheLeastIntAsAnItem() {
        InkSwaths x = new InkSwaths();
        x.sheet(0, 2, 1);
        x.put(0, 2, 0, LEAST);
        Due.is("get(0, 2, 0)", x.get(0, 2, 0), LEAST);
        Due.is("count(8)", x.count(8), 0);
    }

    // ---- promise 31: copy

    private static void promise31SheetsAre0To3() {
        for (int wrong : Due.outside(0, 3)) {
            Twins.bad("copy(" + wrong + ", 0, 0, 0, 1)", x -> x.copy(wrong, 0, 0, 0, 1));
            Twins.bad("copy(0, 0, " + wrong + ", 0, 1)", x -> x.copy(0, 0, wrong, 0, 1));
        }
    }

    private static void promise31NoneAndAllItems() {
        InkSwaths x = twoOfInts();
        Due.is("none from the beginning", x.copy(0, 0, 1, 0, 0), 1);
        Due.is("none from the ends", x.copy(0, 6, 1, 4, 0), 1);
        items("none", x, 1, 2, 20, 21, 22, 23);
        Due.is("all of the shorter one", x.copy(0, 2, 1, 0, 4), 1);
        items("all", x, 1, 2, 12, 13, 14, 15);
        items("where they came from", x, 0, 2, 10, 11, 12, 13, 14, 15);
        Due.is("one from the last to the last", x.copy(0, 0, 1, 3, 1), 1);
        items("one", x, 1, 2, 12, 13, 14, 10);
        InkSwaths y = new InkSwaths();
        Twins.most(y);
        Due.is("60 items", y.copy(0, 0, 1, 0, 60), 1);
        Due.is("the first", y.get(1, 2, 0), 40);
        Due.is("the last", y.get(1, 2, 59), 100);
    }

    private static void promise31SheetsOfNoItems() {
        InkSwaths x = new InkSwaths();
        x.sheet(0, 1, 0);
        x.sheet(1, 1, 3);
        Due.is("none of none", x.copy(0, 0, 0, 0, 0), 1);
        Due.is("none of none to the end", x.copy(0, 0, 1, 3, 0), 1);
        Due.is("no finding", x.count(8), 0);
        Due.is("one of none", x.copy(0, 0, 1, 0, 1), Due.INDEX);
        Due.is("one to none", x.copy(1, 0, 0, 0, 1), Due.INDEX);
        Due.is("none of none, from 1 on", x.copy(0, 1, 1, 0, 0), Due.INDEX);
    }

    private static void promise31OverItselfAsTheyWere() {
        InkSwaths x = twoOfInts();
        Due.is("forth by one", x.copy(0, 0, 0, 1, 5), 1);
        items("forth by one", x, 0, 2, 10, 10, 11, 12, 13, 14);
        Due.is("back by two", x.copy(0, 2, 0, 0, 4), 1);
        items("back by two", x, 0, 2, 11, 12, 13, 14, 13, 14);
        Due.is("to where it was", x.copy(0, 0, 0, 0, 6), 1);
        items("to where it was", x, 0, 2, 11, 12, 13, 14, 13, 14);
    }

    private static void promise31Null() {
        Twins.finding("from a lost one", Twins::some, x -> x.copy(3, 0, 0, 0, 1), Due.NULL, 1);
        Twins.finding("to a lost one", Twins::some, x -> x.copy(0, 0, 3, 0, 1), Due.NULL, 1);
        Twins.finding("from a lost one to itself", Twins::some, x -> x.copy(3, 0, 3, 0, 0), Due.NULL, 1);
        Twins.finding("both are lost", Twins::nothing, x -> x.copy(0, 0, 1, 0, 0), Due.NULL, 1);
    }

    private static void promise31Store() {
        for (int from = 0; from < 3; from++) {
            for (int to = 0; to < 3; to++) {
                int s = from;
                int t = to;
                if (s != t) {
                    String call = "copy(" + s + ", 0, " + t + ", 0, 1)";
                    Twins.finding(call, Twins::some, x -> x.copy(s, 0, t, 0, 1), Due.STORE, 4);
                }
            }
        }
        Twins.finding("of no items", Twins::some, x -> x.copy(0, 0, 1, 0, 0), Due.STORE, 4);
    }

    /** From a sheet of 6 to one of 4; the state is that of twoOfInts, told anew. */
    private static void promise31Index() {
        int[][] wrong = {{-1, 0, 1}, {0, -1, 1}, {0, 0, -1}, {-1, 0, 0}, {0, -1, 0}, {7, 0, 0}, {0, 5, 0}, {6, 0, 1},
            {0, 4, 1}, {0, 0, 5}, {3, 0, 4}, {0, 1, 4}, {LEAST, 0, 1}, {0, LEAST, 1}, {0, 0, LEAST}, {GREATEST, 0, 1},
            {0, GREATEST, 1}, {0, 0, GREATEST}};
        for (int[] w : wrong) {
            noSuchItems(w[0], w[1], w[2]);
        }
    }

    /** Sums that wrap: from i on so many would end below 0 or within the sheet. */
    private static void promise31IndexOfSumsThatWrap() {
        int[][] wrong = {{GREATEST, 0, GREATEST}, {0, GREATEST, GREATEST}, {GREATEST, GREATEST, GREATEST},
            {1, 0, GREATEST}, {0, 1, GREATEST}, {1, 1, GREATEST}, {GREATEST, 0, 2}, {LEAST, 0, LEAST}, {0, LEAST, LEAST},
            {LEAST, LEAST, LEAST}, {-2, 0, 3}, {0, -1, 2}, {LEAST, 0, GREATEST}, {2, 2, -1}, {GREATEST, 0, LEAST}};
        for (int[] w : wrong) {
            noSuchItems(w[0], w[1], w[2]);
        }
    }

    private static void noSuchItems(int i, int j, int n) {
        String call = "copy(0, " + i + ", 1, " + j + ", " + n + ")";
        Twins.finding(call, x -> {
            x.sheet(0, 2, 6);
            x.sheet(1, 2, 4);
            x.put(0, 2, 5, 15);
            x.put(1, 2, 3, 23);
        }, x -> x.copy(0, i, 1, j, n), Due.INDEX, 2);
    }

    private static void promise31TheFirstThatFits() {
        Twins.bad("no such sheet, a lost one", x -> x.copy(3, 0, 4, 0, -1));
        Twins.bad("no such sheet, a lost one", x -> x.copy(-1, -1, 3, 0, 1));
        Twins.finding("lost, no item", Twins::some, x -> x.copy(3, -1, 0, 0, 1), Due.NULL, 1);
        Twins.finding("lost behind another form, no item", Twins::some, x -> x.copy(2, 99, 3, 0, 1), Due.NULL, 1);
        Twins.finding("unlike forms, no item", Twins::some, x -> x.copy(0, 99, 1, 0, 1), Due.STORE, 4);
        Twins.finding("unlike forms, below 0", Twins::some, x -> x.copy(0, 0, 1, 0, -1), Due.STORE, 4);
    }

    // ---- promise 32: write

    private static void promise32SheetsAre0To3() {
        for (int wrong : Due.outside(0, 3)) {
            Twins.bad("write(" + wrong + ")", x -> x.write(wrong));
        }
        InkSwaths x = Due.head(1, 1, 1, 1, -20);
        x.line(0, 3);
        x.sheet(0, 2, 1);
        x.sheet(3, 2, 1);
        Due.is("write(0)", x.write(0), 1);
        Due.is("write(3)", x.write(3), 1);
        items("sheet 0", x, 0, 2, 3);
        items("sheet 3", x, 3, 2, 3);
    }

    private static void promise32NullOfALostOne() {
        for (int lost = 0; lost < 4; lost++) {
            int s = lost;
            Twins.finding("write(" + s + ")", Twins::nothing, x -> x.write(s), Due.NULL, 1);
        }
        Twins.finding("write(3)", Twins::some, x -> x.write(3), Due.NULL, 1);
    }

    /** As many as there are items, 16 at most; what is behind stays. */
    private static void promise32AsManyAsThereAreItems() {
        for (int many : new int[] {0, 1, 15, 16, 17, 60}) {
            InkSwaths x = Due.head(1, 1, 1, 1, -20);
            for (int line = 0; line < 16; line++) {
                x.line(line, 100 + line);
            }
            x.sheet(0, 1, many);
            for (int i = 0; i < many; i++) {
                x.put(0, 1, i, 7);
            }
            Due.is("write to " + many, x.write(0), Math.min(many, 16));
            for (int i = 0; i < many; i++) {
                Due.is("item " + i + " of " + many, x.get(0, 1, i), i < 16 ? 100 + i : 7);
            }
            Due.is("no finding", x.count(8), 0);
            Due.is("so many items as ahead", x.lose(0), many);
        }
    }

    private static void promise32NoneIsMissed() {
        InkSwaths x = new InkSwaths();
        Due.fill(x, 255);
        x.sheet(0, 2, 2);
        x.put(0, 2, 0, 9);
        x.put(0, 2, 1, 9);
        Due.is("write(0)", x.write(0), 2);
        items("none is missed", x, 0, 2, 0, 0);
        Due.is("the picture stays", x.count(0), 128);
    }

    private static void promise32TheLowestBits() {
        InkSwaths x = Due.head(1, 1, 1, 1, -20);
        x.line(0, 255);
        x.line(1, 128);
        x.line(2, 127);
        for (int form = 0; form < 3; form++) {
            x.sheet(form, form, 3);
            Due.is("write to form " + form, x.write(form), 3);
        }
        items("bytes", x, 0, 0, -1, -128, 127);
        items("shorts", x, 1, 1, 255, 128, 127);
        items("ints", x, 2, 2, 255, 128, 127);
    }

    // ---- promise 33: count

    private static void promise33WhatIs0To8() {
        for (int wrong : Due.outside(0, 8)) {
            Twins.bad("count(" + wrong + ")", x -> x.count(wrong));
        }
    }

    private static void promise33Least() {
        counts("no hits, no dots", Due.head(1, 1, 1, 1, -20), 0, 0, 0, 0, 0, 0, 0, 0, 0);
    }

    private static void promise33Most() {
        InkSwaths x = new InkSwaths();
        Twins.most(x);
        // In pass 0 five dots of lines 0, 5, 10, 15 each, in pass 1 five of line 12; nozzle 7 alone is alive for
        // long enough with nothing to print, and makes drops in passes 5 and 11.
        counts("the greatest head", x, 128, 5, 8, 103, 103, 2, 4, 8, 5);
        InkSwaths y = Due.head(8, 5, 1, 12, -20);
        Due.fill(y, 255);
        // Lines 0, 1, 5, 6, 10, 11, 15 have 3 hits, the rest 2; nozzles 0 to 7 make 4, 4, 3, 1, 0, 0, 2, 3 drops.
        counts("all are printed", y, 128, 39, 0, 0, 0, 17, 16, 0, 0);
    }

    private static void promise33TheLatestFinding() {
        InkSwaths x = new InkSwaths();
        Due.is("before any", x.count(8), 0);
        x.read(0);
        Due.is("NULL", x.count(8), 1);
        x.sheet(0, 0, 1);
        x.sheet(1, 1, 1);
        Due.is("what is right changes nothing", x.count(8), 1);
        x.get(0, 0, 1);
        Due.is("INDEX", x.count(8), 2);
        x.put(0, 1, 0, 0);
        Due.is("CAST", x.count(8), 3);
        x.copy(0, 0, 1, 0, 1);
        Due.is("STORE", x.count(8), 4);
        x.sheet(0, 0, -1);
        Due.is("SIZE", x.count(8), 5);
        x.lose(2);
        Due.is("NULL again", x.count(8), 1);
    }

    /** BAD, NOT, FULL and NONE are no FINDINGS. */
    private static void promise33OtherRefusalsAreNoFindings() {
        InkSwaths x = new InkSwaths();
        x.sheet(0, 0, 61);
        x.back();
        x.hit(0, 11, 0);
        x.get(0, 3, 0);
        Due.is("BAD, NOT, NONE", x.count(8), 0);
        for (int i = 0; i < 9; i++) {
            x.event(0, 0, 0);
            x.seen(0, 0);
        }
        Due.is("FULL", x.count(8), 0);
    }

    private static void counts(String name, InkSwaths x, int... due) {
        for (int what = 0; what <= 8; what++) {
            Due.is(name + ": count(" + what + ")", x.count(what), due[what]);
        }
    }

    // ---- promise 34: digest

    private static void promise34NoHitsAndMostHits() {
        digest("a new one", Twins::nothing);
        digest("no hits", x -> Twins.tellHead(x, 1, 1, 1, 1, -20));
        digest("all are missed", x -> {
            Twins.tellHead(x, 1, 1, 1, 1, -20);
            Due.fill(x, 255);
        });
        digest("8 hits", x -> {
            Twins.tellHead(x, 8, 1, 1, 12, -7);
            Due.fill(x, 255);
        });
    }

    private static void promise34SomeAndMostOfAll() {
        digest("some of everything", Twins::some);
        digest("the greatest head, 8 events, 8 seen", Twins::most);
    }

    /** States in which no two of the calls that it is of answer alike by chance: sparing, chances. */
    private static void promise34OneHadBetterNotBe() {
        Consumer<InkSwaths> told = x -> {
            Twins.tellHead(x, 8, 1, 1, 1, 0);
            x.line(7, 1);
            x.event(1, 0, 0);
            x.event(0, 0, 7);
        };
        Due.is("spare(0)", Twins.made(told).spare(0), 1);
        Due.is("chance(5, 0)", Twins.made(told).chance(5, 0), 11);
        Due.is("chance(5, 1)", Twins.made(told).chance(5, 1), 16);
        digest("one had better not be", told);
    }

    private static void promise34PrintedByAnotherHit() {
        Consumer<InkSwaths> told = x -> {
            Twins.tellHead(x, 3, 2, 2, 3, -4);
            x.line(0, 0b10001001);
            x.event(0, 0, 2);
        };
        Due.is("column 3 wants", Twins.made(told).by(0, 3, 1), 0);
        Due.is("column 3 is printed by", Twins.made(told).by(0, 3, 0), 1);
        digest("by another hit", told);
    }

    /** The last of 12 lines by lot makes a difference, and so would one more. */
    private static void promise34TestsOf12Lines() {
        Consumer<InkSwaths> told = x -> Twins.tellHead(x, 1, 1, 1, 12, 0, 8, 1);
        Due.is("tests(7, 11, 1)", Twins.made(told).tests(7, 11, 1), 1);
        Due.is("tests(7, 12, 1)", Twins.made(told).tests(7, 12, 1), 0);
        digest("lines 0 to 11", told);
        Consumer<InkSwaths> far = x -> Twins.tellHead(x, 1, 1, 12, 12, 0, 8, 1);
        Due.is("tests(7, 12, 1)", Twins.made(far).tests(7, 12, 1), 11);
        Due.is("tests(7, 13, 1)", Twins.made(far).tests(7, 13, 1), 10);
        digest("lines 0 and 12", far);
    }

    private static void digest(String name, Consumer<InkSwaths> told) {
        Due.is(name, Twins.made(told).digest(), Digest.byCalls(told));
    }

    /** count() 8 and what SHEETS hold are not in it. */
    private static void promise34SheetsAndFindingsDoNotMatter() {
        InkSwaths x = new InkSwaths();
        long before = x.digest();
        x.lose(0);
        x.sheet(1, 2, 60);
        x.put(1, 2, 59, LEAST);
        Due.is("digest()", x.digest(), before);
    }
}
