/** Promises 34 to 38: sheets, what is put into them and moved, papers and laws in them. */
public final class SheetsTest {
  public static void main(String[] args) {
    making();
    putting();
    moving();
    movesRefused();
    papers();
    narrowPapers();
    judging();
    Checks.end("SheetsTest");
  }

  private static void making() {
    SoldYear x = new SoldYear();
    Checks.due("8", x.sheet(0, 8, 24), 1);
    Checks.due("16", x.sheet(1, 16, 0), 1);
    Checks.due("32", x.sheet(3, 32, 1), 1);
    Checks.due("missing, n below", x.sheet(2, 0, -7), 1);
    Checks.due("missing, n above", x.sheet(2, 0, 99), 1);
    Checks.due("sheet 4", x.sheet(4, 8, 1), Checks.BEYOND);
    Checks.due("sheet -1", x.sheet(-1, 8, 1), Checks.BEYOND);
    Checks.due("bits 9", x.sheet(0, 9, 1), Checks.BEYOND);
    Checks.due("bits 64", x.sheet(0, 64, 1), Checks.BEYOND);
    Checks.due("bits -8", x.sheet(0, -8, 1), Checks.BEYOND);
    Checks.due("n 25", x.sheet(0, 8, 25), Checks.BEYOND);
    Checks.due("n -1", x.sheet(0, 8, -1), Checks.STATE);
    Checks.due("BEYOND of bits ahead of STATE", x.sheet(0, 9, -1), Checks.BEYOND);
    Checks.due("BEYOND of the sheet ahead of STATE", x.sheet(4, 8, -1), Checks.BEYOND);
    Checks.due("it stays as it was", x.put(0, 23, 1), 1);
    Checks.due("no number", x.put(1, 0, 1), Checks.BEYOND);
    Checks.due("goes", x.sheet(0, 0, 5), 1);
    Checks.due("missing", x.put(0, 0, 1), Checks.NONE);
  }

  private static void putting() {
    SoldYear x = new SoldYear();
    x.sheet(2, 32, 3);
    Checks.due("missing, ahead of the number", x.put(0, 99, 5), Checks.NONE);
    Checks.due("sheet 4", x.put(4, 0, 5), Checks.BEYOND);
    Checks.due("sheet -1", x.put(-1, 0, 5), Checks.BEYOND);
    Checks.due("number 3", x.put(2, 3, 5), Checks.BEYOND);
    Checks.due("number -1", x.put(2, -1, 5), Checks.BEYOND);
    Checks.due("number 2", x.put(2, 2, 2), 1);
    Checks.due("numbers 0, 0, 2 but the name of year 1 is 1", x.judge(2, 0, 0), 1);
    x.put(2, 1, 1);
    Checks.due("0, 1, 2", x.judge(2, 0, 0), 3);
    int[] widths = {8, 16};
    for (int bits : widths) {
      x.sheet(0, bits, 1);
      x.put(0, 0, (77 << bits) + 33);
      Checks.due("the lowest bits of " + bits, x.judge(0, 0, 33), 1);
    }
    x.sheet(0, 32, 1);
    x.put(0, 0, (77 << 16) + 33);
    Checks.due("all bits of 32", x.judge(0, 0, 33), 0);
    x.sheet(2, 32, 3);
    Checks.due("all 0 again", x.judge(2, 0, 0), 1);
  }

  private static void fill(SoldYear x, int sheet, int bits, int... numbers) {
    x.sheet(sheet, bits, numbers.length);
    for (int i = 0; i < numbers.length; i++) {
      x.put(sheet, i, numbers[i]);
    }
  }

  /** Whether a sheet has these numbers, told by judge(), number by number: each of them is alone in a sheet. */
  private static void holds(SoldYear x, int sheet, int bits, int... numbers) {
    for (int i = 0; i < numbers.length; i++) {
      x.sheet(3, bits, 1);
      Checks.due("moved", x.move(sheet, i, 3, 0, 1), 1);
      Checks.due("number " + i, x.judge(3, 0, numbers[i]), 1);
    }
    Checks.due("no more", x.put(sheet, numbers.length, 0), Checks.BEYOND);
  }

  private static void moving() {
    SoldYear x = new SoldYear();
    fill(x, 0, 16, 1, 2, 3, 4, 5, 6);
    fill(x, 1, 16, 11, 12, 13);
    Checks.due("to another", x.move(0, 2, 1, 1, 2), 2);
    holds(x, 1, 16, 11, 3, 4);
    holds(x, 0, 16, 1, 2, 3, 4, 5, 6);
    Checks.due("up in the same", x.move(0, 0, 0, 1, 4), 4);
    holds(x, 0, 16, 1, 1, 2, 3, 4, 6);
    Checks.due("down in the same", x.move(0, 2, 0, 0, 4), 4);
    holds(x, 0, 16, 2, 3, 4, 6, 4, 6);
    Checks.due("none at all", x.move(0, 6, 1, 3, 0), 0);
    Checks.due("all", x.move(1, 0, 0, 3, 3), 3);
    holds(x, 0, 16, 2, 3, 4, 11, 3, 4);
  }

  private static void movesRefused() {
    SoldYear x = new SoldYear();
    fill(x, 0, 16, 1, 2, 3);
    fill(x, 1, 8, 1, 2, 3);
    fill(x, 2, 16, 7, 8);
    Checks.due("sheet 4", x.move(4, 0, 0, 0, 1), Checks.BEYOND);
    Checks.due("sheet -1", x.move(-1, 0, 0, 0, 1), Checks.BEYOND);
    Checks.due("other 4", x.move(0, 0, 4, 0, 1), Checks.BEYOND);
    Checks.due("other -1, ahead of NONE", x.move(3, 0, -1, 0, 1), Checks.BEYOND);
    Checks.due("one is missing", x.move(3, 0, 0, 0, 1), Checks.NONE);
    Checks.due("the other is missing", x.move(0, 0, 3, 0, -1), Checks.NONE);
    Checks.due("unlike bits, ahead of BEYOND", x.move(0, -1, 1, 0, 1), Checks.KIND);
    Checks.due("n -1", x.move(0, 0, 2, 0, -1), Checks.BEYOND);
    Checks.due("i -1", x.move(0, -1, 2, 0, 1), Checks.BEYOND);
    Checks.due("j -1", x.move(0, 0, 2, -1, 1), Checks.BEYOND);
    Checks.due("too many from i on", x.move(0, 2, 2, 0, 2), Checks.BEYOND);
    Checks.due("too many from j on", x.move(0, 0, 2, 1, 2), Checks.BEYOND);
    Checks.due("n far above", x.move(0, 1, 2, 1, Integer.MAX_VALUE), Checks.BEYOND);
    Checks.due("i far above", x.move(0, Integer.MAX_VALUE, 2, 0, 1), Checks.BEYOND);
    Checks.due("j far above, none", x.move(0, 0, 2, Integer.MAX_VALUE, 0), Checks.BEYOND);
    holds(x, 2, 16, 7, 8);
  }

  private static void papers() {
    SoldYear x = new SoldYear();
    fill(x, 0, 16, 206, 364, 0, 0, 5);
    Checks.due("the last isn't whole", x.papers(0), 2);
    Checks.due("name", x.paperIs(0, 0), 206);
    Checks.due("of", x.paperIs(0, 1), 364);
    Checks.due("name", x.paperIs(1, 0), 0);
    fill(x, 0, 16, 5, 5, 207, 0, 6, 6);
    Checks.due("up to the name that is refused", x.papers(0), 1);
    fill(x, 0, 32, 6, 6, 7, 365);
    Checks.due("up to the day that is refused", x.papers(0), 1);
    fill(x, 0, 32, -1, 6);
    Checks.due("below 0", x.papers(0), 0);
    Checks.due("four", x.count(2), 4);
    SoldYear y = new SoldYear();
    fill(y, 0, 32, 1, 2, 3, 4);
    Checks.due("all", y.papers(0), 2);
    Checks.due("the last", y.paperIs(1, 1), 4);
    fill(x, 0, 8, 1, 1, 2, 2, 3, 3, 4, 4, 5, 5);
    Checks.due("up to the ninth", x.papers(0), 4);
    Checks.due("full", x.papers(0), 0);
    Checks.due("no errors", x.told(1) + x.told(4), 0);
    x.sheet(1, 8, 0);
    Checks.due("no numbers", x.papers(1), 0);
    Checks.due("missing", x.papers(2), Checks.NONE);
    Checks.due("sheet 4", x.papers(4), Checks.BEYOND);
    Checks.due("sheet -1", x.papers(-1), Checks.BEYOND);
  }

  /** 8 bits hold -128 .. 127, as Java's byte does: the document tells of no other numbers. */
  private static void narrowPapers() {
    SoldYear x = new SoldYear();
    fill(x, 0, 8, 127, 127, 128, 0);
    Checks.due("128 is -128", x.papers(0), 1);
    fill(x, 0, 16, 40000, 0);
    Checks.due("40000 is below 0", x.papers(0), 0);
  }

  private static void judging() {
    SoldYear x = new SoldYear();
    x.sale(41, 0, 1);
    fill(x, 0, 8, 40, 42, 43);
    fill(x, 1, 32, 40, 41, 41, 42);
    Checks.due("all are so", x.judge(0, 0, 40), 3);
    Checks.due("not in 1", x.judge(0, 1, 40), 1);
    Checks.due("not from 41 on", x.judge(0, 0, 41), 0);
    Checks.due("twice", x.judge(1, 1, 40), 4);
    fill(x, 2, 16, 199, 200, 201);
    Checks.due("beyond the last year", x.judge(2, 0, 198), 2);
    fill(x, 2, 16, 200);
    Checks.due("the last year", x.judge(2, 0, 199), 1);
    x.sheet(2, 8, 0);
    Checks.due("as many as there are: none", x.judge(2, 0, 0), 0);
    Checks.due("sheet 4", x.judge(4, 0, 0), Checks.BEYOND);
    Checks.due("sheet -1", x.judge(-1, 0, 0), Checks.BEYOND);
    Checks.due("county 4", x.judge(0, 4, 0), Checks.BEYOND);
    Checks.due("county -1", x.judge(0, -1, 0), Checks.BEYOND);
    Checks.due("year 200", x.judge(0, 0, 200), Checks.BEYOND);
    Checks.due("year -1", x.judge(0, 0, -1), Checks.BEYOND);
    Checks.due("missing", x.judge(3, 0, 0), Checks.NONE);
    Checks.due("BEYOND ahead of NONE", x.judge(3, 4, 0), Checks.BEYOND);
  }
}
