/**
 * The promises 1 to 23 one by one, where a sentence names a boundary: what is answered on both sides of
 * it, and which refusal is the first that fits. RefusedTest tests that a refused call changes nothing.
 * Each run's first line is the document's sentence.
 */
public final class PromisesBoundsTest {
  private static final Checks CHECKS = new Checks();

  public static void main(String[] args) {
    newObject();
    pupilAndGroup();
    work();
    leaveAndExcuse();
    everyPair();
    tickAndText();
    rulesTaken();
    rulesRefused();
    strict();
    nameAndHangs();
    need();
    opens();
    hand();
    mark();
    peerAndShow();
    appeal();
    markOf();
    value();
    range();
    least();
    count();
    countOfRefusals();
    CHECKS.end();
  }

  private static void told(String run) {
    Told.run(CHECKS, run);
  }

  private static void newObject() {
    told("""
        1: Nobody, no WORKS, no TEXT, no RULES; TICK 0
        count 0 -> 0
        count 1 -> 0
        count 2 -> 0
        count 3 -> 0
        count 4 -> 0
        count 5 -> 0
        count 6 -> 0
        count 7 -> 0
        count 8 -> 0
        count 11 -> 0
        count 17 -> 0
        count 18 -> 0
        group 0 0 -> -1
        name 0 -> -1
        rules 1 0 -> -6
        rules 0 0 -> -1000
        tick 100000 -> 100000
        """);
    told("""
        1: Nobody, no WORKS: all that asks for them is refused
        leave 0 0 0 -> -1
        excuse 0 0 0 -> -1
        hangs 0 0 -> -1
        need 0 -1 0 -> -1
        opens 0 0 -> -1
        hand 0 0 -> -1
        mark 0 0 0 -> -1
        peer 0 0 0 -> -1
        show 0 0 0 0 -> -1
        appeal 0 0 0 -> -1
        markOf 0 0 0 -> -1
        value 0 0 0 -> 2000000001
        range 0 0 0 -> 2000000001
        least 0 0 0 0 -> -1
        count 11 -> 14
        """);
  }

  private static void pupilAndGroup() {
    told("""
        2: A PUPIL: its number. -6
        5 x pupil
        pupil -> 5
        pupil -> -6
        pupil -> -6
        count 16 -> 2
        """);
    told("""
        3: A PUPIL goes to a GROUP: what it was. -1
        6 x pupil
        group 0 5 -> 0
        group 0 5 -> 5
        group 0 6 -> -1
        group 0 -1 -> -1
        group 6 0 -> -1
        group -1 0 -> -1
        group 2147483647 0 -> -1
        group 0 -2147483648 -> -1
        group 0 0 -> 5
        """);
  }

  private static void work() {
    told("""
        4: A WORK: its number. -1 KIND; -4; -6 (10, too)
        work 4 0 0 0 -> -1
        work -1 21 0 0 -> -1
        work 4 1 100001 0 -> -1
        work 4 1 0 -1 -> -1
        work 0 0 100001 0 -> -4
        work 0 21 -1 0 -> -4
        work 0 21 0 -1 -> -4
        work 0 -2147483648 0 0 -> -4
        work 0 2147483647 0 0 -> -6
        work 0 1 2147483647 0 -> -6
        work 0 1 0 2147483647 -> -6
        9 x work 3 20 100000 100
        work 3 20 100000 100 -> 9
        work 3 20 100000 100 -> -6
        work 0 0 0 0 -> -4
        work 4 1 0 0 -> -1
        count 1 -> 10
        """);
  }

  private static void leaveAndExcuse() {
    told("""
        5: LEAVE of a PUPIL for a WORK in TICKS (0 .. 1000; 0 at first): what it was. -1; -4; -6
        2 x pupil
        2 x work 0 9 0 1
        leave 0 0 -1 -> -4
        leave 0 0 1001 -> -6
        leave 0 0 0 -> 0
        leave 0 0 1000 -> 0
        leave 0 0 1001 -> -6
        leave 0 0 -1 -> -4
        leave 0 0 999 -> 1000
        leave 0 1 0 -> 0
        leave 1 0 0 -> 0
        leave 0 0 0 -> 999
        leave 2 0 -1 -> -1
        leave 0 2 1001 -> -1
        leave -1 0 0 -> -1
        leave 0 -1 0 -> -1
        """);
    told("""
        5: (It counts for hand-ins that were, too.)
        pupil
        work 0 9 0 100
        tick 1000
        hand 0 0
        mark 0 0 9
        markOf 0 0 -> 0/1
        leave 0 0 999 -> 0
        markOf 0 0 3 -> 1
        markOf 0 0 -> 0/1
        leave 0 0 1000 -> 999
        markOf 0 0 3 -> 0
        markOf 0 0 -> 9/1
        leave 0 0 0 -> 1000
        markOf 0 0 -> 0/1
        """);
    told("""
        6: A PUPIL is EXCUSED from a WORK, or not: 1; 0 if it was so. -1
        2 x pupil
        2 x work 0 9 0 0
        excuse 0 0 0 -> 0
        excuse 0 0 1 -> 1
        excuse 0 0 1 -> 0
        excuse 0 1 0 -> 0
        excuse 1 0 0 -> 0
        excuse 0 0 0 -> 1
        excuse 0 0 0 -> 0
        excuse 2 0 1 -> -1
        excuse 0 2 1 -> -1
        excuse -1 0 0 -> -1
        excuse 0 -1 0 -> -1
        """);
  }

  /** Each of the 60 pairs has what is its own. */
  private static void everyPair() {
    CourseHouse x = Checks.withPupils(6);
    for (int w = 0; w < 10; w++) {
      x.work(0, 20, 0, 100);
    }
    x.tick(1000);
    for (int p = 0; p < 6; p++) {
      for (int w = 0; w < 10; w++) {
        CHECKS.due("5: LEAVE of a PUPIL for a WORK: " + p + ", " + w, x.leave(p, w, 900 + 10 * p + w), 0);
        CHECKS.due("6: EXCUSED from a WORK: " + p + ", " + w, x.excuse(p, w, (p + w) % 2 == 0), (p + w + 1) % 2);
      }
    }
    for (int p = 0; p < 6; p++) {
      for (int w = 0; w < 10; w++) {
        boolean out = (p + w) % 2 == 0;
        CHECKS.due("14: A hand-in: " + p + ", " + w, x.hand(p, w), out ? -3 : 1);
        CHECKS.due("19: DAYS: " + p + ", " + w, x.markOf(p, w, 3), out ? -9 : (100 - 10 * p - w + 23) / 24);
        CHECKS.due("5: what it was: " + p + ", " + w, x.leave(p, w, 1000), 900 + 10 * p + w);
        CHECKS.due("15: MARKING: " + p + ", " + w, x.mark(p, w, p + w), out ? -3 : 1);
      }
    }
    for (int p = 0; p < 6; p++) {
      for (int w = 0; w < 10; w++) {
        CHECKS.due("19: MARK: " + p + ", " + w, x.markOf(p, w, 0), (p + w) % 2 == 0 ? 0 : p + w);
      }
    }
  }

  private static void tickAndText() {
    told("""
        7: n TICKS pass: TICK. -4 below 1; -6
        tick 0 -> -4
        tick -1 -> -4
        tick -2147483648 -> -4
        tick 100001 -> -6
        tick 2147483647 -> -6
        tick 1 -> 1
        tick 100000 -> -6
        tick 99999 -> 100000
        tick 1 -> -6
        tick 2147483647 -> -6
        tick 0 -> -4
        count 3 -> 100000
        """);
    told("""
        8: Twenty bytes come to the TEXT, of each int the highest first: its length
        pupil
        text 1631400242 996293938 996359475 996425012 909844512 -> 20
        rules 20 0 -> 4
        name 0 -> 1
        value 0 0 -> 12/1
        name 1 -> 2
        value 0 1 -> 2/1
        value 0 2 -> 3/1
        value 0 3 -> 46/1
        text 1631400251 -1 0 2147483647 -2147483648 -> 20
        rules 4 0 -> 1
        text 1631400251 -1 0 2147483647 -2147483648 -> 20
        rules 5 0 -> -1004
        text 1631400224 -2147483648 0 0 0 -> 20
        rules 4 0 -> -1004
        text 1631400224 1006567424 0 0 0 -> 20
        rules 5 0 -> 1
        """);
    told("""
        8: -6 it would be above 600
        28 x text 0 0 0 0 0
        text 0 0 0 0 0 -> 580
        text 0 0 0 0 0 -> 600
        text 0 0 0 0 0 -> -6
        rules 600 0 -> -1000
        text 0 0 0 0 0 -> 20
        """);
  }

  private static void rulesTaken() {
    told("""
        9: The first n bytes of the TEXT become the RULES: how many
        text 'a=1;b=2;c=3;d=4;e=5;' -> 20
        rules 4 0 -> 1
        text 'a=1;b=2;c=3;d=4;e=5;' -> 20
        rules 8 0 -> 2
        text 'a=1;b=2;c=3;d=4;e=5;' -> 20
        rules 20 0 -> 5
        text 'a=1;b=2;c=3;d=4;e=5;' -> 20
        rules 9 0 -> -1009
        count 2 -> 5
        """);
    told("""
        9: (the TEXT is empty then, also if it is refused, but by -4, -6)
        work 0 1 0 0
        text 'a=1;' -> 20
        rules -1 0 -> -4
        rules 21 0 -> -6
        count 4 -> 20
        text 'b=1;' -> 40
        rules -2147483648 1 -> -4
        rules 2147483647 1 -> -6
        count 4 -> 40
        rules 24 0 -> 2
        count 4 -> 0
        text 'a=1;' -> 20
        rules 0 0 -> -1000
        count 4 -> 0
        text 'a=b;' -> 20
        rules 4 0 -> -2000
        count 4 -> 0
        text 'a=1;a=1;' -> 20
        rules 8 0 -> -3001
        count 4 -> 0
        text 'a=a;' -> 20
        rules 4 0 -> -5
        count 4 -> 0
        need 0 1 0 -> 1
        text 'a=1;' -> 20
        rules 4 0 -> -3
        count 4 -> 0
        """);
    told("""
        9: -4 n below 0; -6 n above its length
        rules -1 0 -> -4
        rules 1 0 -> -6
        text 'a=1;' -> 20
        rules -1 1 -> -4
        rules 21 1 -> -6
        rules 20 1 -> 1
        rules 1 0 -> -6
        """);
  }

  private static void rulesRefused() {
    told("""
        9: the first that fits: the FAULT ahead of a HOLE ahead of TWICE ahead of a RING
        rules 'a=x;a=1;b=b;#' -> -1012
        rules 'a=1;a=1;b=b;c=x;' -> -2003
        rules 'b=b;a=1;a=1;' -> -3002
        rules 'a=1;b=b;' -> -5
        rules 'a=1;a=x;' -> -2001
        count 18 -> 4
        count 15 -> 1
        count 13 -> 0
        """);
    told("""
        9: -2000 less the number of the first RULE with a HOLE
        rules 'a=x;b=y;' -> -2000
        rules 'a=1;b=1+(2*max(1,y));c=x;' -> -2001
        rules 'a=b;b=c;c=d;' -> -2002
        rules 'a=1;b=1;c=1;d=1;e=1;f=1;g=1;h=1;i=1;j=1;k=1;l=wj;' -> -2011
        """);
    told("""
        9: -3000 less that of the first that is TWICE (the later one)
        rules 'a=1;a=2;b=1;b=2;' -> -3001
        rules 'a=1;b=1;b=2;a=2;' -> -3002
        rules 'a=1;b=2;c=3;a=4;a=5;' -> -3003
        """);
    told("""
        9: -5 a RING (WORKS' NEEDS, too)
        2 x work 0 1 0 0
        rules 'a=1;b=1;' -> 2
        need 0 0 0 -> 1
        rules 'a=wa;b=1;' -> -5
        rules 'a=b;b=wa;' -> -5
        rules 'a=wb;b=wa;' -> 2
        need 1 1 0 -> -5
        need 0 -1 0 -> 1
        need 1 1 0 -> 1
        rules 'a=wb;b=wa;' -> 2
        rules 'a=wa;b=wb;' -> -5
        """);
    told("""
        9: -3 a WORK NEEDS a RULE whose number there is not; behind -5, ahead of -7
        pupil
        2 x work 0 1 0 0
        rules 'a=5;b=1;c=1;' -> 3
        need 0 2 0 -> 1
        need 1 0 0 -> 1
        rules 'a=5;b=1;' -> -3
        rules 'x=1;y=2;z=3;' -> 3
        rules 'x=x;y=2;' -> -5
        rules 'x=wb;y=2;' -> -5
        strict 'x=0;y=2;' -> -3
        strict 'x=0;y=2;z=3;' -> -7
        need 0 1 0 -> 1
        rules 'x=1;y=2;' -> 2
        rules 'x=1;' -> -3
        need 0 -1 0 -> 1
        rules 'x=1;' -> 1
        count 13 -> 3
        """);
  }

  private static void strict() {
    told("""
        9: strict: not if some RULE of a PUPIL would be less than that of the same NAME is now
        marks 3
        strict 'a=1;' -> 1
        strict 'a=1-1/9999/9999;' -> -7
        strict 'a=1;' -> 1
        strict 'b=0;c=a;a=1+1/9999/9999;' -> 3
        strict 'b=1;a=1;' -> -7
        rules 'b=1;a=1;' -> 2
        strict 'a=0-5;' -> -7
        strict 'c=0-5;b=1;' -> 2
        count 17 -> 3
        """);
    told("""
        9: -7 of any PUPIL, the last one, too
        5 x pupil
        work 0 9 0 0
        rules 'a=1;b=2;' -> 2
        strict 'a=1+wa;b=2-wa;' -> 2
        pupil -> 5
        hand 5 0
        mark 5 0 1
        strict 'a=1;b=1;' -> -7
        strict 'b=1;a=2;' -> -7
        strict 'b=2;a=2;' -> 2
        """);
    told("""
        9: -7 of any RULE, the last one, too
        pupil
        rules 'a=1;b=1;c=1;d=1;e=1;f=1;g=1;h=1;i=1;j=1;k=1;l=1;' -> 12
        strict 'a=1;b=1;c=1;d=1;e=1;f=1;g=1;h=1;i=1;j=1;k=1;l=0;' -> -7
        strict 'l=0;' -> -7
        strict 'm=1;n=1;o=1;p=1;q=1;r=1;s=1;t=1;u=1;v=1;w=1;l=0;' -> -7
        strict 'm=1;n=1;o=1;p=1;q=1;r=1;s=1;t=1;u=1;v=1;w=1;a=0;' -> -7
        strict 'l=1;k=1;j=1;i=1;h=1;g=1;f=1;e=1;d=1;c=1;b=1;a=1;' -> 12
        """);
    told("""
        9: (both numbers)
        marks 3 out
        rules 'a=wb;b=9999*9999*9999;c=1;d=1;' -> 4
        strict 'a=0-9;b=0-9;c=1;d=1;' -> 4
        strict 'a=wb;b=9999*9999*9999;' -> 2
        strict 'a=9999*9999*9999;b=wb;' -> 2
        strict 'a=0-9;b=0-9;' -> 2
        strict 'a=0-9;b=0-10;' -> -7
        """);
    told("""
        9: nobody there has less
        rules 'a=5;' -> 1
        strict 'a=4;' -> 1
        pupil
        strict 'a=3;' -> -7
        rules 'a=3;' -> 1
        """);
  }

  private static void nameAndHangs() {
    told("""
        10: its letters as a number, 27 times that ahead and 1 to 26 for the next one. -1
        name 0 -> -1
        rules 'a=1;z=1;aa=1;zz=1;aaaa=1;zzzz=1;wk=1;abcd=1;h=1;i=1;j=1;k=1;' -> 12
        name 0 -> 1
        name 1 -> 26
        name 2 -> 28
        name 3 -> 728
        name 4 -> 20440
        name 5 -> 531440
        name 6 -> 632
        name 7 -> 21226
        name 11 -> 11
        name 12 -> -1
        name -1 -> -1
        name 2147483647 -> -1
        name -2147483648 -> -1
        """);
    told("""
        11: Whether a RULE hangs on a WORK: 1, 0. -1
        9 x work 0 1 0 0
        rules 'a=b;b=wi;c=1;' -> 3
        hangs 0 8 -> 1
        hangs 1 8 -> 1
        hangs 2 8 -> 0
        hangs 0 0 -> 0
        hangs 0 9 -> -1
        hangs 3 0 -> -1
        hangs -1 0 -> -1
        hangs 0 -1 -> -1
        work 0 1 0 0 -> 9
        hangs 0 9 -> 0
        need 8 2 0 -> 1
        rules 'a=b;b=wi;c=wj;' -> 3
        hangs 0 9 -> 1
        hangs 2 8 -> 0
        """);
  }

  private static void need() {
    told("""
        12: A WORK NEEDS a RULE with a NUMBER (0 .. 9999), or (rule -1) none: 1. -1; -4; -6
        work 0 1 0 0
        need 0 0 0 -> -1
        need 0 -1 0 -> 1
        need 0 -1 9999 -> 1
        need 0 -1 -1 -> -4
        need 0 -1 10000 -> -6
        rules 'a=1;b=2;' -> 2
        need 0 1 0 -> 1
        need 0 1 9999 -> 1
        need 0 1 -1 -> -4
        need 0 1 10000 -> -6
        need 0 2 0 -> -1
        need 0 -2 0 -> -1
        need 1 0 0 -> -1
        need -1 0 0 -> -1
        need 1 -1 -1 -> -1
        need 0 2 10000 -> -1
        need 0 0 -2147483648 -> -4
        need 0 0 2147483647 -> -6
        """);
    told("""
        12: -5 it would hang on itself
        2 x work 0 1 0 0
        rules 'a=wa;b=a;c=wb;d=1;' -> 4
        need 0 0 0 -> -5
        need 0 1 9999 -> -5
        need 0 0 -1 -> -4
        need 0 0 10000 -> -6
        need 0 2 0 -> 1
        need 1 1 0 -> -5
        need 1 2 0 -> -5
        need 1 3 0 -> 1
        need 0 -1 0 -> 1
        need 1 1 0 -> 1
        count 15 -> 4
        """);
  }

  private static void opens() {
    told("""
        13: Whether a WORK is open for a PUPIL: 1, 0. -1
        marks 3 out
        rules 'a=wa;b=wb;' -> 2
        opens 0 1 -> 1
        need 1 0 3 -> 1
        opens 0 1 -> 1
        need 1 0 4 -> 1
        opens 0 1 -> 0
        need 0 1 0 -> -5
        opens 1 0 -> -1
        opens -1 0 -> -1
        opens 0 2 -> -1
        opens 0 -1 -> -1
        """);
  }

  private static void hand() {
    told("""
        14: A hand-in: how many PUPILS have it by that. -1; -3 EXCUSED, not open, or as told
        6 x pupil
        2 x work 1 9 0 0
        hand 5 0 -> 1
        group 5 0
        hand 5 0 -> 2
        group 1 0
        group 2 0
        group 3 0
        group 4 0
        hand 5 0 -> 6
        excuse 5 0 1
        hand 5 0 -> -3
        hand 0 0 -> 6
        excuse 5 0 0
        hand 5 0 -> 6
        hand 6 0 -> -1
        hand -1 0 -> -1
        hand 0 2 -> -1
        hand 0 -1 -> -1
        """);
    told("""
        14: -3 not open
        2 x pupil
        work 0 9 0 0
        work 0 9 0 0
        work 1 9 0 0
        work 2 9 0 0
        work 3 9 0 0
        rules 'a=wa;' -> 1
        need 1 0 1
        need 2 0 1
        need 3 0 1
        need 4 0 1
        hand 0 1 -> -3
        hand 0 2 -> -3
        hand 0 3 -> -3
        hand 0 4 -> -3
        hand 0 0
        mark 0 0 1
        hand 0 1 -> 1
        hand 0 2 -> 1
        hand 0 3 -> 1
        hand 0 4 -> 1
        hand 1 1 -> -3
        """);
    told("""
        14: -3 EXCUSED
        pupil
        work 0 9 0 0
        work 1 9 0 0
        work 2 9 0 0
        work 3 9 0 0
        excuse 0 0 1
        excuse 0 1 1
        excuse 0 2 1
        excuse 0 3 1
        hand 0 0 -> -3
        hand 0 1 -> -3
        hand 0 2 -> -3
        hand 0 3 -> -3
        count 5 -> 0
        """);
  }

  private static void mark() {
    told("""
        15: MARKING: how many PUPILS have the mark by that. -1; -3; -4; -6 above MOST
        6 x pupil
        work 0 1 0 0
        work 1 20 0 0
        work 2 7 0 0
        work 3 7 0 0
        hand 0 0
        mark 0 0 -1 -> -4
        mark 0 0 2 -> -6
        mark 0 0 2147483647 -> -6
        mark 0 0 -2147483648 -> -4
        mark 0 0 1 -> 1
        group 1 0
        group 2 0
        group 3 0
        group 4 0
        group 5 0
        hand 3 1
        mark 5 1 -1 -> -4
        mark 5 1 21 -> -6
        mark 5 1 20 -> 6
        hand 0 2
        mark 0 2 -1 -> -4
        mark 0 2 8 -> -6
        mark 0 2 0 -> 1
        count 6 -> 8
        """);
    told("""
        15: -1 ahead of -3 ahead of -4 and -6
        2 x pupil
        work 0 9 0 0
        work 3 9 0 0
        mark 2 0 -1 -> -1
        mark 0 2 10 -> -1
        mark -1 0 0 -> -1
        mark 0 -1 0 -> -1
        mark 0 0 -1 -> -3
        mark 0 0 10 -> -3
        hand 0 0
        mark 1 0 0 -> -3
        mark 0 0 0 -> 1
        mark 0 0 -1 -> -3
        mark 0 0 10 -> -3
        hand 0 1
        hand 1 1
        mark 0 1 -1 -> -3
        mark 0 1 0 -> -3
        mark 0 1 10 -> -3
        """);
  }

  private static void peerAndShow() {
    told("""
        16: PEER i (0, 1) of a PUPIL's SHOWN; -9 there is none such. -1; -3
        3 x pupil
        work 3 9 0 0
        work 0 9 0 0
        peer 0 0 0 -> -3
        peer 0 0 2 -> -3
        peer 0 0 -1 -> -3
        hand 0 0
        peer 0 0 0 -> -9
        peer 0 0 1 -> -9
        peer 1 0 0 -> -3
        hand 1 0
        peer 0 0 0 -> 1
        peer 0 0 1 -> -9
        hand 2 0
        peer 0 0 1 -> 2
        peer 0 0 2 -> -9
        peer 0 0 -1 -> -9
        peer 0 0 2147483647 -> -9
        peer 0 0 -2147483648 -> -9
        hand 0 1
        hand 1 1
        peer 0 1 0 -> -3
        peer 0 1 2 -> -3
        peer 3 0 0 -> -1
        peer -1 0 2 -> -1
        peer 0 2 -1 -> -1
        peer 0 -1 0 -> -1
        """);
    told("""
        17: A PEER marks: how many marks there are then. -1; -3; -4; -6
        4 x pupil
        work 3 1 0 0
        hand 0 0
        hand 1 0
        hand 2 0
        hand 3 0
        show 3 0 0 0 -> -3
        show 0 0 0 0 -> -3
        show 1 0 0 -1 -> -4
        show 1 0 0 2 -> -6
        show 1 0 0 2147483647 -> -6
        show 1 0 0 1 -> 1
        show 1 0 0 0 -> -3
        show 1 0 0 2 -> -3
        show 2 0 0 0 -> 2
        show 2 0 0 -1 -> -3
        markOf 0 0 -> 1/2
        show 0 3 0 1 -> 1
        show 1 3 0 1 -> 2
        show 2 3 0 1 -> -3
        """);
    told("""
        17: -1 ahead of -3 ahead of -4 and -6
        2 x pupil
        work 3 9 0 0
        work 0 9 0 0
        work 1 9 0 0
        work 2 9 0 0
        show 2 0 0 -1 -> -1
        show -1 0 0 10 -> -1
        show 0 2 0 10 -> -1
        show 0 -1 0 0 -> -1
        show 0 1 4 -1 -> -1
        show 0 1 -1 0 -> -1
        show 1 0 0 -1 -> -3
        show 1 0 0 10 -> -3
        hand 0 1
        hand 1 1
        hand 0 2
        hand 1 2
        hand 0 3
        hand 1 3
        show 1 0 1 1 -> -3
        show 1 0 2 1 -> -3
        show 1 0 3 1 -> -3
        show 1 0 1 -1 -> -3
        show 1 0 1 10 -> -3
        hand 1 0
        show 1 0 0 1 -> -3
        hand 0 0
        show 1 0 0 9 -> 1
        """);
  }

  private static void appeal() {
    told("""
        18: APPEAL: the mark that was. -1; -3 nothing is MARKED, SHOWN; -4; -6
        2 x pupil
        work 0 9 0 0
        work 3 9 0 0
        appeal 0 0 -1 -> -3
        appeal 0 0 10 -> -3
        hand 0 0
        appeal 0 0 9 -> -3
        mark 0 0 0
        appeal 0 0 -1 -> -4
        appeal 0 0 10 -> -6
        appeal 0 0 -2147483648 -> -4
        appeal 0 0 2147483647 -> -6
        appeal 0 0 9 -> 0
        appeal 0 0 0 -> 9
        hand 0 1
        hand 1 1
        show 1 0 1 5 -> 1
        appeal 0 1 5 -> -3
        appeal 0 1 -1 -> -3
        appeal 0 1 10 -> -3
        appeal 2 0 -1 -> -1
        appeal 0 2 10 -> -1
        appeal -1 0 0 -> -1
        appeal 0 -1 0 -> -1
        count 7 -> 2
        """);
  }

  private static void markOf() {
    told("""
        19: 2 0 OUT, 1 MARKED, 2 OPEN-ENDED (0 and 1 are 0 and 1 then; of OUT, too), 3 DAYS, 4 how many
        pupil
        work 0 20 0 10
        markOf 0 0 -> 0/1
        markOf 0 0 2 -> 2
        markOf 0 0 3 -> -9
        markOf 0 0 4 -> 0
        tick 24
        hand 0 0
        markOf 0 0 -> 0/1
        markOf 0 0 2 -> 2
        markOf 0 0 3 -> 1
        markOf 0 0 4 -> 1
        mark 0 0 19
        markOf 0 0 -> 171/10
        markOf 0 0 2 -> 1
        excuse 0 0 1
        markOf 0 0 -> 0/1
        markOf 0 0 2 -> 0
        markOf 0 0 3 -> 1
        markOf 0 0 4 -> 1
        markOf 0 0 5 -> -2
        markOf 0 0 -1 -> -2
        markOf 1 0 5 -> -1
        markOf 0 1 -1 -> -1
        markOf -1 0 0 -> -1
        markOf 0 -1 0 -> -1
        markOf 0 0 2147483647 -> -2
        markOf 0 0 -2147483648 -> -2
        """);
  }

  private static void value() {
    told("""
        20: 0 the upper, 1 the lower number (0, 1 of OUT, LOST), 2 0 OUT, 1 a number, 2 LOST
        marks 3 out
        rules 'a=0-wa/2;b=wb;c=9999*9999*9999;d=0;' -> 4
        value 0 0 0 -> -3
        value 0 0 1 -> 2
        value 0 0 2 -> 1
        value 0 1 0 -> 0
        value 0 1 1 -> 1
        value 0 1 2 -> 0
        value 0 2 0 -> 0
        value 0 2 1 -> 1
        value 0 2 2 -> 2
        value 0 3 0 -> 0
        value 0 3 1 -> 1
        value 0 3 2 -> 1
        value 0 0 3 -> 2000000002
        value 0 0 -1 -> 2000000002
        value 0 4 3 -> 2000000001
        value 0 -1 -1 -> 2000000001
        value 1 0 3 -> 2000000001
        value -1 0 0 -> 2000000001
        value 0 0 2147483647 -> 2000000002
        value 0 0 -2147483648 -> 2000000002
        """);
  }

  private static void range() {
    told("""
        21: 0, 1 the least one's upper, lower number, 2, 3 the greatest one's; 4 how many WORKS
        marks - 3 out
        rules 'a=(wa+1)/3;b=wb;c=wc;' -> 3
        range 0 0 0 -> 1
        range 0 0 1 -> 3
        range 0 0 2 -> 7
        range 0 0 3 -> 1
        range 0 0 4 -> 1
        range 0 1 4 -> 0
        range 0 2 4 -> 0
        range 0 2 3 -> 2000000003
        range 0 0 5 -> 2000000002
        range 0 0 -1 -> 2000000002
        range 0 2 5 -> 2000000002
        range 0 3 5 -> 2000000001
        range 0 -1 0 -> 2000000001
        range 1 0 5 -> 2000000001
        range -1 0 4 -> 2000000001
        """);
    told("""
        21: -3 more than 3 with - (but what 4), or no VALUE is a number
        marks - - - -
        rules 'a=wa-wb-wc;b=a+wd;c=9999*9999*9999*(wa+1);' -> 3
        range 0 0 -> -40/1 .. 20/1
        range 0 0 4 -> 3
        range 0 1 0 -> 2000000003
        range 0 1 1 -> 2000000003
        range 0 1 2 -> 2000000003
        range 0 1 3 -> 2000000003
        range 0 1 4 -> 4
        range 0 1 5 -> 2000000002
        range 0 2 0 -> 2000000003
        range 0 2 4 -> 1
        count 13 -> 5
        """);
  }

  private static void least() {
    told("""
        22: The least mark (0 .. MOST), others as they are, with which the VALUE is n (0 .. 9999) or more
        pupil
        work 0 20 0 100
        work 0 1 0 100
        rules 'a=wa;b=wb;c=wa*500-1;d=9;e=9999;' -> 5
        tick 100
        least 0 0 0 0 -> 0
        least 0 0 0 1 -> 1
        least 0 0 0 20 -> 20
        least 0 0 0 21 -> -9
        least 0 0 0 9999 -> -9
        least 0 1 1 0 -> 0
        least 0 1 1 1 -> 1
        least 0 1 1 2 -> -9
        least 0 1 0 1 -> -9
        least 0 2 0 9999 -> 20
        least 0 2 0 9499 -> 19
        least 0 2 0 9500 -> 20
        least 0 2 0 0 -> 1
        least 0 3 0 9 -> 0
        least 0 3 0 10 -> -9
        least 0 4 0 9999 -> 0
        least 0 0 0 -1 -> -4
        least 0 0 0 10000 -> -6
        hand 0 0
        least 0 0 0 20 -> 20
        """);
    told("""
        22: -9 there is none. -1; -3 it is not OPEN-ENDED; -4; -6
        marks 3 out -
        rules 'a=wb;b=9999*9999*9999;c=wc;' -> 3
        least 0 0 2 0 -> -9
        least 0 1 2 0 -> -9
        least 0 2 0 -1 -> -3
        least 0 2 1 10000 -> -3
        least 0 2 2 -1 -> -4
        least 0 2 2 10000 -> -6
        least 0 3 0 -1 -> -1
        least 0 -1 2 0 -> -1
        least 0 0 3 10000 -> -1
        least 0 0 -1 0 -> -1
        least 1 0 0 0 -> -1
        least -1 0 2 0 -> -1
        least 0 2 2 -2147483648 -> -4
        least 0 2 2 2147483647 -> -6
        """);
  }

  private static void count() {
    told("""
        23: 0 PUPILS, 1 WORKS, 2 RULES, 3 TICK, 4 length of the TEXT, 5 hand-ins, 6 marks, 7 APPEALS
        2 x pupil
        work 1 9 0 0
        work 3 9 0 0
        work 0 9 0 0
        group 1 0
        rules 'a=1;b=1;' -> 2
        text 'a' -> 20
        tick 9
        hand 0 0 -> 2
        hand 1 0 -> 2
        mark 0 0 1 -> 2
        hand 0 1 -> 1
        hand 1 1 -> 1
        show 1 0 1 0 -> 1
        hand 0 2 -> 1
        appeal 0 0 1 -> 1
        appeal 0 0 0 -> 1
        appeal 1 0 0 -> 1
        count 0 -> 2
        count 1 -> 3
        count 2 -> 2
        count 3 -> 9
        count 4 -> 20
        count 5 -> 7
        count 6 -> 3
        count 7 -> 3
        """);
    told("""
        23: 8 1 if the RULES' TEXT has -
        count 8 -> 0
        rules 'a=1-1;' -> 1
        count 8 -> 1
        rules 'a=1+1;' -> 1
        count 8 -> 0
        rules 'a=1;b=cap(best 1((2-1),3),4);' -> 2
        count 8 -> 1
        rules 'a=1-;' -> -1004
        count 8 -> 1
        rules 'a=1;' -> 1
        rules 'a=1-x;' -> -2000
        count 8 -> 0
        text 'a=1;b=1-1;' -> 20
        rules 4 0 -> 1
        count 8 -> 0
        """);
    told("""
        23: -9 for another what
        count -1 -> -9
        count 9 -> -9
        count 10 -> -9
        count 19 -> -9
        count 2147483647 -> -9
        count -2147483648 -> -9
        count 12 -> 0
        """);
  }

  private static void countOfRefusals() {
    told("""
        23: 11 .. 17 REFUSALS -1 .. -7
        marks 3
        name 0 -> -1
        value 0 0 0 -> 2000000001
        rules 'a=wa;' -> 1
        markOf 0 0 5 -> -2
        value 0 0 3 -> 2000000002
        range 0 0 5 -> 2000000002
        hand 0 0 -> -3
        mark 0 0 1 -> -3
        least 0 0 0 1 -> -3
        peer 0 0 0 -> -3
        tick 0 -> -4
        tick 0 -> -4
        need 0 0 1 -> -5
        rules 'a=a;' -> -5
        need 0 0 1 -> -5
        tick 100001 -> -6
        strict 'a=2;' -> -7
        strict 'a=1;' -> -7
        count 11 -> 2
        count 12 -> 3
        count 13 -> 4
        count 14 -> 2
        count 15 -> 3
        count 16 -> 1
        count 17 -> 2
        count 18 -> 0
        """);
    told("""
        23: 18 TEXTS that were refused (FAULTS, HOLES, TWICE)
        pupil
        rules -1 0 -> -4
        rules 1 0 -> -6
        count 18 -> 0
        rules 0 0 -> -1000
        count 18 -> 1
        rules 'a=b;' -> -2000
        count 18 -> 2
        rules 'a=1;a=1;' -> -3001
        count 18 -> 3
        rules 'a=a;' -> -5
        rules 'a=1;' -> 1
        strict 'a=0;' -> -7
        count 18 -> 3
        """);
  }
}
