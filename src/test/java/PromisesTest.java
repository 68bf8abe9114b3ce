/** Each promise of the document by itself: ordinary calls, the edges that it names, and wrong calls. */
public final class PromisesTest extends Checks {
  static void promise1() {
    Hall x = new Hall();
    due(0, x.time(), "time");
    due(0, x.used(0), "used(0)");
    due(0, x.used(1), "used(1)");
    refused(x, BOUNDS, () -> x.out(0), "out(0)");
    refused(x, BOUNDS, () -> x.stored(0), "stored(0)");
    refused(x, STATE, () -> { x.mend(0); return 0; }, "mend(0)");
    refused(x, STATE, () -> { x.mend(1); return 0; }, "mend(1)");
    due(5, x.tick(5), "tick(5) without guests");
    due(0, new Hall().time(), "another hall's time");
  }

  static void promise2() {
    Hall x = new Hall();
    due(0, x.guest(1, 4, false), "guest");
    due(1, x.of(0, 1), "host");
    for (int what : new int[] {0, 2, 3, 4, 5, 6, 7, 8, 10}) due(0, x.of(0, what), "of(0, " + what + ")");
    due(-1, x.of(0, 9), "of(0, 9)");
    for (int page = 0; page < 8; page++) due(GuestHall.BARE, x.pageOf(0, page), "pageOf");
    refused(x, BOUNDS, () -> x.guest(-1, 0, false), "guest(-1, 0)");
    refused(x, BOUNDS, () -> x.guest(2, 1, false), "guest(2, 1)");
    refused(x, ARGUMENT, () -> x.guest(0, 0, false), "guest(0, 0)");
    refused(x, ARGUMENT, () -> x.guest(0, 5, false), "guest(0, 5)");
    x.fail(0);
    refused(x, STATE, () -> x.guest(0, 1, false), "guest on a host that failed");
    refused(x, ARGUMENT, () -> x.guest(0, 5, false), "guest(0, 5) on a host that failed");
    for (int i = 1; i < 5; i++) due(i, x.guest(1, 1, i == 2), "guest");
    refused(x, STATE, () -> x.guest(1, 1, false), "a sixth guest");
    refused(x, ARGUMENT, () -> x.guest(1, 0, false), "a sixth guest without weight");
  }

  static void promise3() {
    Hall x = new Hall();
    x.guest(0, 1, false);
    int[] mostA = {3, 3, 3, 3, 3, 7, 3, 3, -1, -1, -1, -1, -1, -1};
    int[] mostB = {9999, 3, 3, 3, 23, 8, 1, 2, -1, 23, 1, -1, 7, -1};
    for (int what = SET; what <= STOP; what++) {
      int it = what, goodA = Math.max(0, mostA[what]), goodB = Math.max(0, mostB[what]);
      int n = what;
      due(n, x.instruct(0, what, goodA, goodB), "instruct");
      if (mostA[what] >= 0) {
        refused(x, ARGUMENT, () -> x.instruct(0, it, goodA + 1, goodB), it + " with a above");
        refused(x, ARGUMENT, () -> x.instruct(0, it, -1, goodB), it + " with a below");
      }
      if (mostB[what] >= 0) {
        refused(x, ARGUMENT, () -> x.instruct(0, it, goodA, goodB + 1), it + " with b above");
        refused(x, ARGUMENT, () -> x.instruct(0, it, goodA, -1), it + " with b below");
      }
    }
    refused(x, BOUNDS, () -> x.instruct(1, 99, 0, 0), "instruct(1)");
    refused(x, BOUNDS, () -> x.instruct(-1, SET, 0, 0), "instruct(-1)");
    refused(x, ARGUMENT, () -> x.instruct(0, -1, 0, 0), "instruct(0, -1)");
    refused(x, ARGUMENT, () -> x.instruct(0, 14, 0, 0), "instruct(0, 14)");
    due(14, x.instruct(0, WAIT, -7, 99999), "WAIT with any a and b");
    due(15, x.instruct(0, BACK, 99, -1), "BACK with any a and b");
    due(16, x.instruct(0, STOP, 99, -1), "STOP with any a and b");
    due(17, x.instruct(0, GIVE, -1, 0), "GIVE with any a");
    due(18, x.instruct(0, HANDLE, -1, 0), "HANDLE with any a");
    due(19, x.instruct(0, MASK, -1, 0), "MASK with any a");
    for (int i = 20; i < 24; i++) due(i, x.instruct(0, ADD, 0, 0), "instruct");
    refused(x, STATE, () -> x.instruct(0, ADD, 0, 0), "a 25th instruction");
    refused(x, ARGUMENT, () -> x.instruct(0, ADD, 4, 0), "a 25th instruction that is wrong");
    Hall y = new Hall();
    make(y, ADD, 0, 0);
    make(y, ADD, 0, 0);
    y.tick(1);
    refused(y, STATE, () -> y.instruct(0, ADD, 0, 0), "instruct once run");
    due(1, y.instruct(1, ADD, 0, 0), "instruct of one that waits for its turn");
    y.snapshot(1);
    due(2, y.instruct(1, ADD, 0, 0), "instruct behind a snapshot");
    y.restore(1, 0);
    refused(y, STATE, () -> y.instruct(1, ADD, 0, 0), "instruct once restored");
    Hall z = new Hall();
    make(z, ADD, 0, 0);
    z.follow(0, true);
    due(1, z.instruct(0, ADD, 0, 0), "instruct of one that is followed");
    z.fail(0);
    refused(z, STATE, () -> z.instruct(0, ADD, 0, 0), "instruct once it goes on as if restored");
  }

  static void instructions() {
    says(of(OUT, 0, 0), 0);
    says(of(SET, 3, 9999, OUT, 3, 0, SET, 0, 1, ADD, 3, 0, OUT, 3, 0, SET, 3, 7, ADD, 3, 3, OUT, 3, 0), 9999, 0, 14);
    says(all(put(5, 31), get(31), of(OUT, 2, 0), get(30), of(OUT, 2, 0)), 5, 0);
    says(of(SET, 0, 2, JUMP, 0, 4, OUT, 0, 0, STOP, 0, 0, JUMP, 1, 2, SET, 0, 3, OUT, 0, 0), 3);
    // The view 2 shows the page 0 then: one word, seen at two addresses.
    says(all(of(MAP, 2, 0), put(8, 9), get(1), of(OUT, 2, 0)), 8);
    // The pages stay what they are behind a view that shows another one.
    says(all(put(8, 4), of(MAP, 1, 0), get(4), of(OUT, 2, 0, MAP, 1, 1), get(4), of(OUT, 2, 0)), 0, 8);
    says(all(put(8, 4), of(GIVE, 0, 1), get(4), of(OUT, 2, 0)), 0);
    says(of(OUT, 0, 0, STOP, 0, 0, OUT, 0, 0), 0);
    // A fault goes to the handler with the cause 1 and the number of the instruction that was not done.
    says(of(HANDLE, 0, 4, SET, 0, 32, LOAD, 1, 0, STOP, 0, 0, IN, 2, 2, OUT, 2, 0, OUT, 1, 0, SET, 0, 0, BACK, 0, 0), 1, 0);
    says(all(of(HANDLE, 0, 7, MAP, 3, 8, SET, 1, 12, STORE, 1, 1, LOAD, 2, 1, OUT, 2, 0, STOP, 0, 0),
        of(IN, 2, 2, OUT, 2, 0, MAP, 3, 3, BACK, 0, 0)), 1, 12);
    // IN from the inputs: 0 without any; from the clock: the ticks ahead of this one.
    says(of(IN, 0, 0, OUT, 0, 0, IN, 0, 1, OUT, 0, 0), 0, 2);
    // BACK goes to the saved number 0 where nothing was saved.
    Hall x = new Hall();
    make(x, MASK, 0, 1, MASK, 0, 1, BACK, 0, 0);
    x.tick(2);
    due(1, x.of(0, 4), "masked");
    x.tick(1);
    due(0, x.of(0, 4), "masked behind BACK");
    due(0, x.of(0, 2), "next behind BACK");
    dying();
    interrupts();
  }

  static void dying() {
    Hall x = new Hall();
    make(x, all(put(6, 4), of(SET, 1, 32, LOAD, 0, 1)));
    x.tick(4);
    due(GuestHall.READY, x.of(0, 0), "ahead of the fault");
    x.tick(1);
    due(GuestHall.DEAD, x.of(0, 0), "a fault without a handler");
    due(4, x.of(0, 2), "the next instruction");
    due(6, x.register(0, 0), "the register that was not loaded");
    due(0, x.of(0, 3), "the cause");
    due(6, x.word(0, 1, 0), "its pages stay");
    due(GuestHall.HELD, x.pageOf(0, 1), "its frames stay");
    due(5, x.of(0, 7), "ticks run");
    yes(x.isAsPlain(0), "isAsPlain");
    x.tick(5);
    due(5, x.of(0, 7), "ticks run later");
    Hall y = new Hall();
    make(y, HANDLE, 0, 0, MASK, 0, 1, SET, 1, 9999, STORE, 0, 1);
    y.tick(9);
    due(GuestHall.DEAD, y.of(0, 0), "a fault while masked");
    due(3, y.of(0, 2), "the next instruction");
    Hall z = new Hall();
    make(z);
    due(GuestHall.READY, z.of(0, 0), "without a program");
    z.tick(1);
    due(GuestHall.STOPPED, z.of(0, 0), "without a program, run");
    due(1, z.of(0, 7), "the tick of that");
    due(0, z.exits(0, GuestHall.RESTS), "no STOP was done");
  }

  static void interrupts() {
    Hall x = new Hall();
    make(x, HANDLE, 0, 5, SET, 0, 3, OUT, 0, 1, JUMP, 0, 3, STOP, 0, 0, IN, 1, 2, OUT, 1, 0, BACK, 0, 0);
    x.tick(5);
    due(3, x.of(0, 2), "ahead of the timer");
    x.tick(1);
    due(6, x.of(0, 2), "the timer goes off 3 ticks behind the third");
    due(2, x.of(0, 3), "the cause");
    due(1, x.of(0, 4), "masked");
    x.tick(2);
    due(3, x.of(0, 2), "back again");
    due(0, x.of(0, 4), "masked behind BACK");
    x.tick(20);
    due(1, x.out(0), "it goes off once");
    due(2, x.outAt(0, 0), "what is said");
    // A timer that is set again is set anew; with 0 it is set no more.
    Hall y = new Hall();
    make(y, HANDLE, 0, 6, SET, 0, 2, OUT, 0, 1, OUT, 0, 1, OUT, 1, 1, JUMP, 0, 5, STOP, 0, 0);
    y.tick(40);
    due(GuestHall.READY, y.of(0, 0), "the timer was set to 0");
    // A pending interrupt outlives OUT of 0 to the timer, and the timer's goes first.
    Hall z = new Hall();
    make(z, MASK, 0, 1, HANDLE, 0, 7, SET, 0, 1, OUT, 0, 1, ADD, 1, 1, OUT, 1, 1, MASK, 0, 0, IN, 2, 2, OUT, 2, 0, BACK, 0, 0);
    z.send(0);
    z.tick(7);
    due(0, z.exits(0, GuestHall.LET), "let in while masked");
    z.tick(8);
    due(2, z.exits(0, GuestHall.LET), "let in");
    due(2, z.outAt(0, 0), "the timer's first");
    due(3, z.outAt(0, 1), "then the one that was sent");
    yes(z.isAsPlain(0), "isAsPlain");
    // WAIT waits not at all while an interrupt is pending, and is an exit all the same.
    Hall w = new Hall();
    make(w, WAIT, 0, 0, WAIT, 0, 0, WAIT, 0, 0);
    w.tick(3);
    due(GuestHall.WAITING, w.of(0, 0), "WAIT");
    due(1, w.of(0, 7), "ticks run");
    w.send(0);
    w.tick(2);
    due(3, w.of(0, 2), "WAIT with one pending");
    due(GuestHall.READY, w.of(0, 0), "WAIT with one pending");
    due(3, w.exits(0, GuestHall.RESTS), "exits of WAIT");
    // A handler behind the last instruction stops the guest.
    Hall v = new Hall();
    make(v, HANDLE, 0, 23, JUMP, 0, 0, SET, 0, 1, JUMP, 0, 3);
    v.tick(4);
    v.send(0);
    v.tick(1);
    due(GuestHall.STOPPED, v.of(0, 0), "a handler behind the program");
    due(23, v.of(0, 2), "next");
    due(1, v.exits(0, GuestHall.LET), "let in");
    due(5, v.of(0, 7), "ticks run");
  }

  static void promise4() {
    Hall x = new Hall();
    make(x, LOOP);
    make(x, LOOP);
    no(x.pause(0, true), "pause");
    yes(x.pause(0, true), "pause once more");
    x.tick(10);
    due(0, x.of(0, 7), "run while paused");
    due(0, x.of(0, 6), "stolen while paused");
    due(10, x.of(1, 7), "the other's");
    due(10, x.of(0, 5), "the clock while paused");
    yes(x.pause(0, false), "pause no more");
    no(x.pause(0, false), "pause no more again");
    x.tick(10);
    due(5, x.of(0, 7), "run then");
    refused(x, BOUNDS, () -> x.pause(2, true) ? 1 : 0, "pause(2)");
    refused(x, BOUNDS, () -> x.pause(-1, true) ? 1 : 0, "pause(-1)");
  }

  static void promise5() {
    Hall x = new Hall();
    x.tick(7);
    make(x);
    due(0, x.of(0, 5), "the clock at first");
    x.tick(10);
    due(1, x.scale(0, 3), "scale");
    due(10, x.of(0, 5), "the clock does not jump");
    x.tick(10);
    due(40, x.of(0, 5), "the clock");
    due(3, x.scale(0, 2), "scale");
    due(40, x.of(0, 5), "the clock");
    x.tick(1);
    due(42, x.of(0, 5), "the clock");
    due(2, x.scale(0, 1), "scale");
    due(1, x.scale(0, 2), "scale");
    refused(x, BOUNDS, () -> x.scale(1, 9), "scale(1)");
    refused(x, ARGUMENT, () -> x.scale(0, 0), "scale(0, 0)");
    refused(x, ARGUMENT, () -> x.scale(0, 4), "scale(0, 4)");
    Hall y = new Hall();
    make(y, IN, 0, 1, OUT, 0, 0, IN, 0, 1, OUT, 0, 0);
    y.scale(0, 3);
    y.tick(4);
    due(0, y.outAt(0, 0), "the clock as it is told");
    due(6, y.outAt(0, 1), "the clock as it is told");
    yes(y.isAsPlain(0), "isAsPlain");
  }

  static void promise6() {
    Hall x = new Hall();
    make(x, IN, 0, 0, OUT, 0, 0, IN, 0, 0, OUT, 0, 0);
    for (int i = 1; i <= 20; i++) due(i, x.input(0, i == 1 ? 9999 : 0), "input");
    refused(x, STATE, () -> x.input(0, 1), "a 21st input");
    refused(x, ARGUMENT, () -> x.input(0, 10000), "input(10000)");
    refused(x, ARGUMENT, () -> x.input(0, -1), "input(-1)");
    refused(x, BOUNDS, () -> x.input(1, -1), "input of no guest");
    x.tick(3);
    due(18, x.of(0, 8), "inputs left");
    due(9999, x.outAt(0, 0), "the first one");
    due(19, x.input(0, 4), "input");
    yes(x.isAsPlain(0), "isAsPlain");
  }

  static void promise7() {
    Hall x = new Hall();
    make(x, HANDLE, 0, 3, WAIT, 0, 0, STOP, 0, 0, IN, 0, 2, OUT, 0, 0, BACK, 0, 0);
    x.tick(2);
    due(GuestHall.WAITING, x.of(0, 0), "ahead of it");
    no(x.send(0), "send");
    due(GuestHall.READY, x.of(0, 0), "behind it");
    yes(x.send(0), "send again");
    x.tick(1);
    due(3, x.of(0, 3), "the cause");
    no(x.send(0), "send once it was let in");
    x.tick(3);
    due(2, x.exits(0, GuestHall.LET), "let in");
    x.tick(10);
    due(GuestHall.STOPPED, x.of(0, 0), "at the end");
    due(3, x.of(0, 2), "behind STOP");
    refused(x, STATE, () -> x.send(0) ? 1 : 0, "send to one that is STOPPED");
    refused(x, BOUNDS, () -> x.send(1) ? 1 : 0, "send(1)");
    Hall y = new Hall();
    make(y, SET, 0, 32, LOAD, 0, 0);
    y.tick(2);
    refused(y, STATE, () -> y.send(0) ? 1 : 0, "send to one that is DEAD");
  }

  static void promise8() {
    Hall x = new Hall();
    refused(x, ARGUMENT, () -> x.tick(0), "tick(0)");
    refused(x, ARGUMENT, () -> x.tick(-1), "tick(-1)");
    refused(x, ARGUMENT, () -> x.tick(101), "tick(101)");
    for (int i = 1; i <= 29; i++) due(100 * i, x.tick(100), "tick(100)");
    due(2999, x.tick(99), "tick(99)");
    refused(x, STATE, () -> x.tick(2), "tick(2) at 2999");
    refused(x, ARGUMENT, () -> x.tick(101), "tick(101) at 2999");
    due(3000, x.tick(1), "tick(1)");
    refused(x, STATE, () -> x.tick(1), "tick(1) at 3000");
    turns();
    turnsThatStay();
  }

  static void turns() {
    Hall x = new Hall();
    make(x, 0, 2, false, LOOP);
    make(x, 0, 1, false, LOOP);
    make(x, 1, 1, false, LOOP);
    make(x, 0, 4, false, LOOP);
    int[] runs = {0, 0, 1, 3, 3, 3, 3, 0, 0, 1};
    int[] ran = new int[4];
    for (int i = 0; i < runs.length; i++) {
      x.tick(1);
      ran[runs[i]]++;
      ran[2]++;
      for (int g = 0; g < 4; g++) due(ran[g], x.of(g, 7), "ticks run of " + g + " at " + i);
      for (int g = 0; g < 4; g++) due(i + 1 - ran[g], x.of(g, 6), "ticks stolen of " + g + " at " + i);
    }
    // One alone is chosen again, and its row begins anew.
    Hall y = new Hall();
    make(y, 0, 2, false, LOOP);
    y.tick(3);
    make(y, 0, 1, false, LOOP);
    y.tick(1);
    due(4, y.of(0, 7), "its second row goes on");
    y.tick(1);
    due(1, y.of(1, 7), "then it is the next one's turn");
  }

  static void turnsThatStay() {
    // A row stays while no guest can run.
    Hall x = new Hall();
    make(x, 0, 3, false, LOOP);
    x.tick(1);
    x.pause(0, true);
    make(x, 0, 1, false, LOOP);
    x.pause(1, true);
    x.tick(5);
    x.pause(0, false);
    x.pause(1, false);
    x.tick(2);
    due(3, x.of(0, 7), "the row goes on behind a pause");
    x.tick(1);
    due(1, x.of(1, 7), "and ends with the weight");
    // The turn goes on behind the number that ran last, also when that one is on the other host.
    Hall y = new Hall();
    for (int i = 0; i < 3; i++) make(y, 0, 4, false, LOOP);
    y.tick(5);
    due(1, y.of(1, 7), "the second one's turn");
    y.move(1);
    y.land(1, true);
    y.tick(1);
    due(1, y.of(2, 7), "the next in number behind it");
    due(2, y.of(1, 7), "it runs there");
    // A timer goes off while its guest is paused; an interrupt makes WAITING READY.
    Hall z = new Hall();
    make(z, SET, 0, 2, OUT, 0, 1, WAIT, 0, 0);
    z.tick(3);
    due(GuestHall.WAITING, z.of(0, 0), "WAITING");
    z.pause(0, true);
    z.tick(1);
    due(GuestHall.READY, z.of(0, 0), "READY while paused");
  }

  static void promise9() {
    Hall x = new Hall();
    make(x, all(put(7, 4), of(SET, 1, 12, STORE, 0, 1, SET, 0, 8, STORE, 0, 1, STOP, 0, 0)));
    make(x, all(put(7, 0), of(STOP, 0, 0)));
    make(x, 0, 1, true, all(put(7, 0), of(STOP, 0, 0)));
    make(x, 1, 1, false, all(put(7, 0), of(STOP, 0, 0)));
    make(x, all(get(0), of(STOP, 0, 0)));
    x.tick(16);
    due(5, x.of(0, 2), "where the first stands");
    due(5, x.used(0), "used");
    due(1, x.frameOf(0, 1), "frame");
    due(2, x.share(0), "share");
    due(3, x.used(0), "used");
    due(1, x.frameOf(0, 3), "a page of the same guest");
    due(1, x.frameOf(1, 0), "a page of another guest");
    due(3, x.frameOf(2, 0), "a sealed guest's is left aside");
    due(0, x.frameOf(4, 0), "one with other words");
    due(GuestHall.BARE, x.pageOf(0, 0), "a bare page stays bare");
    due(0, x.share(0), "share again");
    due(0, x.share(1), "share on the other host");
    due(1, x.used(1), "used there");
    x.tick(2);
    due(1, x.exits(0, GuestHall.COPIED), "copied");
    due(2, x.frameOf(0, 3), "the lowest free frame");
    due(1, x.frameOf(0, 1), "its other page stays");
    due(8, x.word(0, 3, 0), "the new word");
    due(7, x.word(0, 1, 0), "the old word");
    due(7, x.word(1, 0, 0), "the other's word");
    refused(x, BOUNDS, () -> x.share(2), "share(2)");
    refused(x, BOUNDS, () -> x.share(-1), "share(-1)");
    for (int g = 0; g < 5; g++) yes(x.isAsPlain(g), "isAsPlain");
    framesRunShort();
    copyWithoutFreeFrames();
    sharedFrameIsEmptied();
  }

  static void framesRunShort() {
    Hall x = new Hall();
    make(x, 0, 4, false, putAll(1, 8, of(LOAD, 2, 2, SET, 1, 4, LOAD, 2, 1, STOP, 0, 0)));
    x.tick(17);
    make(x, 0, 4, false, putAll(2, 8));
    x.pause(0, true);
    x.tick(17);
    due(16, x.used(0), "all frames");
    due(15, x.frameOf(1, 7), "the last frame");
    x.pause(1, true);
    x.pause(0, false);
    x.tick(1);
    make(x, 0, 4, false, putAll(3, 2, of(SET, 1, 0, LOAD, 2, 1)));
    x.pause(0, true);
    x.tick(3);
    due(16, x.used(0), "all frames still");
    due(GuestHall.HELD, x.pageOf(0, 0), "the one that was read of late");
    due(GuestHall.SWAPPED, x.pageOf(0, 1), "the one that was used longest ago");
    due(-1, x.frameOf(0, 1), "its frame");
    due(1, x.word(0, 1, 0), "its words are kept");
    due(1, x.frameOf(2, 0), "the frame that was emptied");
    x.tick(2);
    due(GuestHall.SWAPPED, x.pageOf(0, 2), "the next one");
    x.pause(2, true);
    x.pause(0, false);
    x.tick(2);
    due(1, x.register(0, 2), "what is read of a page that was brought");
    due(1, x.exits(0, GuestHall.BROUGHT), "BROUGHT");
    due(8, x.exits(0, GuestHall.GIVEN), "GIVEN");
    due(3, x.frameOf(0, 1), "its new frame");
    due(GuestHall.SWAPPED, x.pageOf(0, 3), "which was emptied for it");
    for (int g = 0; g < 3; g++) yes(x.isAsPlain(g), "isAsPlain");
  }

  static void copyWithoutFreeFrames() {
    Hall x = new Hall();
    // Frames 0 to 7, then 8 to 15; the first guest's pages 0 and 1 are alike and were used longest ago.
    make(x, 0, 4, false, SET, 0, 1, STORE, 0, 2, SET, 2, 4, STORE, 0, 2, SET, 0, 9, STORE, 0, 2, STOP, 0, 0);
    x.tick(4);
    x.pause(0, true);
    due(1, x.share(0), "share");
    make(x, 0, 4, false, putAll(2, 8));
    x.tick(17);
    make(x, 0, 4, false, putAll(3, 7));
    x.pause(1, true);
    x.tick(15);
    due(16, x.used(0), "all frames");
    x.pause(2, true);
    x.pause(0, false);
    x.tick(2);
    due(1, x.exits(0, GuestHall.COPIED), "COPIED");
    due(0, x.frameOf(0, 0), "the frame that it shared is not emptied for it");
    due(1, x.frameOf(0, 1), "the oldest other one is");
    due(GuestHall.SWAPPED, x.pageOf(1, 0), "that one's page");
    due(9, x.word(0, 1, 0), "the new word");
    due(1, x.word(0, 0, 0), "the old word");
    // One that is copied is not used by that: it is the oldest still.
    make(x, 0, 4, false, SET, 1, 16, LOAD, 2, 1);
    x.pause(0, true);
    x.tick(2);
    due(0, x.frameOf(3, 4), "the next frame that is emptied");
    due(GuestHall.SWAPPED, x.pageOf(0, 0), "the page that it held");
    for (int g = 0; g < 4; g++) yes(x.isAsPlain(g), "isAsPlain");
    // The same where the shared frame is the frame 1 and the frame 0 was used a tick later.
    Hall y = new Hall();
    make(y, 0, 4, false, SET, 0, 1, SET, 1, 28, STORE, 0, 1, SET, 0, 2, STORE, 0, 2, SET, 2, 4, STORE, 0, 2, LOAD, 3, 1, SET, 0, 9, STORE, 0, 2);
    y.tick(8);
    y.pause(0, true);
    due(1, y.share(0), "share");
    make(y, 0, 4, false, putAll(3, 8));
    make(y, 0, 4, false, putAll(4, 6));
    y.tick(32);
    due(16, y.used(0), "all frames");
    y.pause(0, false);
    y.tick(2);
    due(1, y.frameOf(0, 0), "the frame that it shared");
    due(0, y.frameOf(0, 1), "the frame of the copy");
    due(GuestHall.SWAPPED, y.pageOf(0, 7), "the page that was there");
  }

  static void sharedFrameIsEmptied() {
    Hall x = new Hall();
    make(x, 0, 1, false, all(put(5, 0), of(STOP, 0, 0)));
    make(x, 0, 1, false, all(put(5, 8), of(STOP, 0, 0)));
    x.tick(8);
    due(1, x.share(0), "share");
    due(0, x.frameOf(1, 2), "shared");
    make(x, 0, 4, false, putAll(1, 8));
    make(x, 0, 4, false, putAll(2, 8));
    x.tick(36);
    due(16, x.used(0), "all frames");
    due(GuestHall.SWAPPED, x.pageOf(0, 0), "all pages of a frame are swapped");
    due(GuestHall.SWAPPED, x.pageOf(1, 2), "all pages of a frame are swapped");
    due(5, x.word(0, 0, 0), "with their words");
    due(5, x.word(1, 2, 0), "with their words");
    // A merged frame was used when the later one of both was.
    Hall y = new Hall();
    make(y, 0, 4, false, putAll(0, 8));
    y.tick(18);
    make(y, 0, 4, false, putAll(1, 8));
    y.tick(18);
    due(14, y.share(0), "share");
    due(0, y.frameOf(0, 7), "frame");
    due(8, y.frameOf(1, 7), "frame");
    make(y, 0, 4, false, putAll(2, 8));
    make(y, 0, 4, false, putAll(3, 7));
    y.tick(36);
    due(GuestHall.SWAPPED, y.pageOf(0, 0), "used at 17");
    due(GuestHall.HELD, y.pageOf(1, 0), "used at 35");
  }

  static void promise10() {
    Hall x = new Hall();
    make(x, all(put(7, 0), put(7, 28), get(8), of(GIVE, 0, 7, SET, 1, 999, LOAD, 0, 1)));
    x.tick(8);
    due(3, x.move(0), "move: what is not bare");
    due(3, x.of(0, 9), "to be sent");
    due(0, x.of(0, 10), "sent");
    refused(x, STATE, () -> x.move(0), "move of one that is being moved");
    refused(x, BOUNDS, () -> x.move(1), "move(1)");
    x.land(0, false);
    x.tick(1);
    due(2, x.move(0), "move: one was given back");
    x.land(0, false);
    x.fail(1);
    refused(x, STATE, () -> x.move(0), "move to a host that failed");
    x.mend(1);
    due(2, x.move(0), "move once it is mended");
    x.land(0, false);
    x.tick(2);
    refused(x, STATE, () -> x.move(0), "move of one that is DEAD");
    Hall y = new Hall();
    make(y);
    y.tick(1);
    due(0, y.move(0), "move of one that is STOPPED");
    due(0, y.of(0, 9), "to be sent");
  }

  static void promise11() {
    Hall x = new Hall();
    make(x, putAll(4, 4, of(SET, 1, 0, STORE, 0, 1, LOAD, 2, 1, SET, 1, 28, STORE, 0, 1, GIVE, 0, 1, GIVE, 0, 6, STOP, 0, 0)));
    x.tick(9);
    refused(x, STATE, () -> x.round(0, 1), "round of one that is not being moved");
    refused(x, ARGUMENT, () -> x.round(0, 0), "round(0, 0)");
    due(4, x.move(0), "move");
    refused(x, ARGUMENT, () -> x.round(0, 0), "round(0, 0)");
    refused(x, ARGUMENT, () -> x.round(0, 9), "round(0, 9)");
    refused(x, BOUNDS, () -> x.round(1, 0), "round(1, 0)");
    due(2, x.round(0, 2), "round");
    due(2, x.of(0, 10), "sent");
    x.tick(2);
    due(3, x.of(0, 9), "one that is written is sent once more");
    x.tick(1);
    due(3, x.of(0, 9), "one that is read is not");
    due(2, x.round(0, 1), "round: the lowest first");
    x.tick(2);
    due(3, x.of(0, 9), "one that was bare is written");
    x.tick(1);
    due(4, x.of(0, 9), "one that is given back");
    x.tick(1);
    due(5, x.of(0, 9), "a bare one that is given back");
    due(0, x.round(0, 8), "round");
    due(8, x.of(0, 10), "sent");
    due(0, x.round(0, 8), "round without any");
  }

  static void promise12() {
    Hall x = new Hall();
    make(x, 0, 1, false, all(put(7, 0), put(7, 28), get(8), of(SET, 1, 28, LOAD, 2, 1, SET, 0, 1, JUMP, 0, 8)));
    make(x, 0, 1, false, all(put(7, 4), of(STOP, 0, 0)));
    x.tick(12);
    due(2, x.share(0), "share");
    refused(x, STATE, () -> x.land(0, true), "land of one that is not being moved");
    refused(x, BOUNDS, () -> x.land(2, true), "land(2)");
    x.move(0);
    due(2, x.round(0, 1), "round");
    due(2, x.land(0, true), "land");
    due(3, x.of(0, 10), "sent");
    due(-1, x.of(0, 9), "to be sent");
    due(1, x.of(0, 1), "host");
    due(GuestHall.SWAPPED, x.pageOf(0, 0), "a page that was held");
    due(GuestHall.SWAPPED, x.pageOf(0, 2), "a page of 0 that was held");
    due(GuestHall.BARE, x.pageOf(0, 1), "a bare page");
    due(-1, x.frameOf(0, 0), "frame");
    due(7, x.word(0, 0, 0), "word");
    due(1, x.used(0), "used, where another holds the frame");
    due(0, x.used(1), "used there");
    x.tick(2);
    due(1, x.exits(0, GuestHall.BROUGHT), "BROUGHT there");
    due(0, x.frameOf(0, 7), "frame there");
    due(7, x.register(0, 2), "what it reads there");
    yes(x.isAsPlain(0), "isAsPlain");
    x.move(0);
    due(0, x.land(0, false), "land, not wanted");
    due(1, x.of(0, 1), "host");
    due(GuestHall.HELD, x.pageOf(0, 7), "its pages stay");
    due(3, x.of(0, 10), "sent");
    refused(x, STATE, () -> x.land(0, false), "land again");
    x.move(0);
    due(3, x.land(0, true), "land");
    due(6, x.of(0, 10), "sent in all");
    due(0, x.used(1), "used there");
  }

  static void promise13() {
    Hall x = new Hall();
    make(x, all(put(7, 0), put(8, 4), get(8), of(SET, 1, 0, SET, 0, 0, STORE, 0, 1, STOP, 0, 0)));
    make(x, SET, 1, 32, LOAD, 1, 1);
    x.tick(16);
    due(0, x.snapshot(0), "snapshot");
    due(1, x.snapshot(0), "snapshot");
    refused(x, STATE, () -> x.snapshot(1), "snapshot of one that is DEAD");
    refused(x, BOUNDS, () -> x.snapshot(2), "snapshot(2)");
    for (int i = 2; i < 10; i++) due(i, x.snapshot(0), "snapshot");
    refused(x, STATE, () -> x.snapshot(0), "an eleventh snapshot");
    refused(x, BOUNDS, () -> x.snapshot(-1), "snapshot(-1)");
  }

  static void promise14() {
    Hall x = new Hall();
    make(x, all(of(IN, 2, 0, OUT, 2, 0), put(7, 0), get(8), of(SET, 1, 0, SET, 0, 0, STORE, 0, 1, SET, 3, 99, LOAD, 3, 3)));
    make(x, STOP, 0, 0);
    x.pause(1, true);
    x.input(0, 50);
    x.input(0, 60);
    x.snapshot(1);
    x.tick(7);
    x.scale(0, 2);
    due(1, x.snapshot(0), "snapshot");
    x.input(0, 70);
    refused(x, STATE, () -> x.restore(1, 1), "restore of another's");
    refused(x, BOUNDS, () -> x.restore(0, 2), "restore(0, 2)");
    refused(x, BOUNDS, () -> x.restore(0, -1), "restore(0, -1)");
    refused(x, BOUNDS, () -> x.restore(2, 0), "restore(2, 0)");
    x.tick(5);
    due(GuestHall.DEAD, x.of(0, 0), "DEAD");
    x.scale(0, 3);
    due(1, x.restore(0, 1), "restore: the pages that are not 0");
    due(GuestHall.READY, x.of(0, 0), "how");
    due(7, x.of(0, 2), "next");
    due(7, x.of(0, 5), "clock");
    due(1, x.of(0, 8), "inputs");
    due(7, x.word(0, 0, 0), "word");
    due(GuestHall.SWAPPED, x.pageOf(0, 0), "a page that is not 0");
    due(GuestHall.BARE, x.pageOf(0, 2), "a page of 0");
    due(0, x.used(0), "used");
    due(12, x.of(0, 7), "ticks run");
    due(1, x.out(0), "what went out stays");
    due(2, x.exits(0, GuestHall.GIVEN), "exits stay");
    yes(x.isAsPlain(0), "isAsPlain");
    x.tick(1);
    due(10, x.of(0, 5), "the scale of now");
    x.move(0);
    x.restore(0, 1);
    due(-1, x.of(0, 9), "a move is over");
    x.follow(0, true);
    refused(x, STATE, () -> x.restore(0, 1), "restore of one that is followed");
    x.follow(0, false);
    x.fail(0);
    refused(x, STATE, () -> x.restore(0, 1), "restore on a host that failed");
    x.mend(0);
    due(1, x.restore(0, 1), "restore once it is mended");
    due(GuestHall.READY, x.of(0, 0), "how");
    yes(x.isAsPlain(0), "isAsPlain");
    restoredState();
    for (int ticks = 1; ticks <= 60; ticks++) sameAgain(ticks);
  }

  /** It does not read the clock: from the same state it does the same, however late that is. */
  private static final int[] BUSY = {
    HANDLE, 0, 17, SET, 0, 3, OUT, 0, 1, MASK, 0, 1, SET, 1, 4, STORE, 0, 1, MAP, 1, 2, LOAD, 2, 1, OUT, 2, 0, STORE, 1, 1,
    IN, 2, 0, OUT, 2, 0, MASK, 0, 0, HANDLE, 0, 20, MAP, 1, 8, LOAD, 2, 1, JUMP, 1, 0,
    IN, 2, 2, OUT, 2, 0, BACK, 0, 0, IN, 2, 2, OUT, 2, 0, MAP, 1, 1, BACK, 0, 0};

  /** All of a guest that snapshots and steps keep, and what it says in the next ticks. */
  private static String whatComes(Hall x) {
    int from = x.out(0);
    StringBuilder all = new StringBuilder();
    for (int tick = 0; tick < 50; tick++) {
      for (int what : new int[] {0, 2, 3, 4, 8}) all.append(x.of(0, what)).append(' ');
      for (int i = 0; i < 4; i++) all.append(x.register(0, i)).append(' ');
      for (int i = 0; i < 32; i++) all.append(x.word(0, i / 4, i % 4)).append(' ');
      x.tick(1);
    }
    for (int i = from; i < x.out(0); i++) all.append(" said ").append(x.outAt(0, i));
    return all.toString();
  }

  private static Hall busy(int ticks) {
    Hall x = new Hall();
    make(x, BUSY);
    for (int i = 1; i <= 10; i++) x.input(0, i);
    x.tick(ticks);
    if (ticks % 3 == 0) x.send(0);
    return x;
  }

  static void sameAgain(int ticks) {
    Hall x = busy(ticks);
    x.snapshot(0);
    String first = whatComes(x);
    x.restore(0, 0);
    yes(whatComes(x).equals(first), "the same behind restore at " + ticks);
    yes(x.isAsPlain(0), "isAsPlain behind restore at " + ticks);
    x.input(0, 5);
    x.tick(7);
    x.restore(0, 0);
    x.snapshot(0);
    x.tick(40);
    x.restore(0, 1);
    yes(whatComes(x).equals(first), "the same behind a snapshot of what was restored at " + ticks);
    Hall y = busy(ticks);
    y.follow(0, true);
    y.tick(ticks);
    y.fail(0);
    yes(whatComes(y).equals(first), "the same behind the failing of a host at " + ticks);
    yes(y.isAsPlain(0), "isAsPlain behind the failing of a host at " + ticks);
  }

  static void restoredState() {
    Hall x = new Hall();
    make(x, HANDLE, 0, 9, MAP, 1, 3, SET, 0, 9, OUT, 0, 1, OUT, 0, 0, MASK, 0, 1, MASK, 0, 0, WAIT, 0, 0, STOP, 0, 0, SET, 1, 4, STORE, 0, 1, OUT, 1, 0, BACK, 0, 0);
    x.tick(5);
    x.snapshot(0);
    x.tick(30);
    due(2, x.out(0), "what went out");
    due(9, x.word(0, 3, 0), "the word that the handler put");
    due(0, x.restore(0, 0), "restore");
    due(5, x.of(0, 2), "next");
    x.tick(3);
    due(GuestHall.WAITING, x.of(0, 0), "it waits again");
    x.tick(4);
    due(GuestHall.WAITING, x.of(0, 0), "8 ticks were left, 7 are gone");
    x.tick(1);
    due(10, x.of(0, 2), "the timer goes off");
    x.tick(2);
    due(9, x.word(0, 3, 0), "the views are the same");
    due(3, x.out(0), "what it says goes behind what went out");
    due(4, x.outAt(0, 2), "what it says");
    yes(x.isAsPlain(0), "isAsPlain");
    // What was pending is pending again; it stays on its host; it is paused as it is now.
    Hall y = new Hall();
    make(y, LOOP);
    y.send(0);
    y.tick(1);
    y.snapshot(0);
    y.move(0);
    y.land(0, true);
    y.pause(0, true);
    y.restore(0, 0);
    due(1, y.of(0, 1), "host");
    yes(y.send(0), "pending");
    yes(y.pause(0, true), "paused");
  }

  static void promise15() {
    Hall x = new Hall();
    make(x, SET, 0, 5, OUT, 0, 0, ADD, 0, 0, OUT, 0, 0, OUT, 0, 0, SET, 1, 32, OUT, 0, 0, LOAD, 1, 1);
    no(x.follow(0, true), "follow");
    x.tick(4);
    due(0, x.out(0), "out while followed");
    due(2, x.held(0), "held while followed");
    yes(x.follow(0, true), "follow again");
    due(2, x.out(0), "it makes a step at once");
    due(0, x.held(0), "held behind it");
    x.tick(1);
    due(1, x.held(0), "held");
    yes(x.follow(0, false), "follow no more");
    due(3, x.out(0), "that lets go out what is held");
    due(10, x.outAt(0, 2), "in its order");
    no(x.follow(0, false), "follow no more again");
    x.tick(2);
    due(4, x.out(0), "out at once");
    due(0, x.held(0), "held");
    x.follow(0, true);
    x.tick(1);
    refused(x, STATE, () -> x.follow(0, false) ? 1 : 0, "follow of one that is DEAD");
    refused(x, STATE, () -> x.follow(0, true) ? 1 : 0, "follow of one that is DEAD");
    refused(x, BOUNDS, () -> x.follow(1, true) ? 1 : 0, "follow(1)");
    due(0, x.step(0), "a step of one that is DEAD and followed");
    due(1, x.fail(0), "fail");
    due(GuestHall.DEAD, x.of(0, 0), "DEAD with its step");
    due(1, x.of(0, 1), "upon the other host");
    refused(x, STATE, () -> x.step(0), "it is followed no more");
    yes(x.isAsPlain(0), "isAsPlain");
  }

  static void promise16() {
    Hall x = new Hall();
    make(x, OUT, 0, 0, SET, 0, 1, OUT, 0, 0, JUMP, 0, 0);
    refused(x, STATE, () -> x.step(0), "step of one that is not followed");
    refused(x, BOUNDS, () -> x.step(1), "step(1)");
    refused(x, BOUNDS, () -> x.step(-1), "step(-1)");
    x.follow(0, true);
    x.tick(7);
    due(4, x.held(0), "held");
    due(4, x.step(0), "step");
    due(4, x.out(0), "out");
    due(0, x.step(0), "step again");
    x.tick(1);
    x.fail(0);
    due(3, x.of(0, 2), "the state of the step");
    due(4, x.out(0), "out");
  }

  static void promise17() {
    Hall x = new Hall();
    make(x, all(of(IN, 2, 0, OUT, 2, 0), put(7, 4), get(8), of(SET, 0, 1, JUMP, 0, 0)));
    make(x, all(put(7, 4), of(OUT, 0, 0, SET, 3, 1, JUMP, 3, 0)));
    make(x, 1, 1, false, put(7, 4));
    x.pause(1, true);
    x.tick(3);
    for (int i = 0; i < 20; i++) x.input(0, 100 + i);
    x.follow(0, true);
    x.scale(0, 3);
    x.tick(8);
    due(1, x.held(0), "held");
    due(20, x.input(0, 200), "input");
    x.pause(1, false);
    x.pause(0, true);
    x.tick(4);
    x.pause(0, false);
    x.send(0);
    x.move(0);
    x.move(2);
    refused(x, BOUNDS, () -> x.fail(2), "fail(2)");
    refused(x, BOUNDS, () -> x.fail(-1), "fail(-1)");
    due(1, x.out(1), "out of the other");
    due(1, x.fail(0), "fail");
    refused(x, STATE, () -> x.fail(0), "fail again");
    due(0, x.used(0), "used");
    due(1, x.used(1), "used there");
    due(-1, x.of(0, 9), "moves are over");
    due(-1, x.of(2, 9), "moves are over");
    due(1, x.of(2, 1), "who was on the other host stays");
    due(1, x.of(0, 1), "host");
    due(3, x.of(0, 2), "next");
    due(3, x.of(0, 5), "clock");
    due(21, x.of(0, 8), "inputs, however many");
    due(0, x.held(0), "held is dropped");
    due(1, x.out(0), "what went out stays");
    due(0, x.outAt(0, 0), "what went out");
    due(GuestHall.BARE, x.pageOf(0, 1), "a page of 0 in the step");
    no(x.send(0), "pending no more");
    refused(x, STATE, () -> x.input(0, 1), "input with 21");
    due(GuestHall.DEAD, x.of(1, 0), "the other is DEAD");
    due(GuestHall.BARE, x.pageOf(1, 1), "its pages are bare");
    due(0, x.word(1, 1, 0), "its words");
    due(0, x.of(1, 1), "its host");
    yes(x.isAsPlain(1), "isAsPlain of it");
    yes(x.isAsPlain(0), "isAsPlain");
    due(0, x.fail(1), "fail of the other host");
    due(GuestHall.DEAD, x.of(0, 0), "all are DEAD");
    due(GuestHall.DEAD, x.of(2, 0), "all are DEAD");
    failedWithoutOther();
    followedDead();
  }

  static void failedWithoutOther() {
    Hall x = new Hall();
    make(x, OUT, 0, 0, OUT, 0, 0);
    x.fail(1);
    x.follow(0, true);
    x.tick(1);
    due(1, x.held(0), "held");
    due(0, x.fail(0), "fail of the last host");
    due(GuestHall.DEAD, x.of(0, 0), "how");
    due(0, x.held(0), "held is dropped");
    due(0, x.out(0), "out");
    refused(x, STATE, () -> x.step(0), "it is followed no more");
    x.tick(4);
    due(1, x.of(0, 7), "nothing runs");
    due(5, x.of(0, 5), "its clock goes on");
  }

  static void followedDead() {
    Hall x = new Hall();
    make(x, SET, 0, 3, OUT, 0, 0, SET, 0, 99, LOAD, 0, 0);
    x.tick(1);
    x.follow(0, true);
    x.tick(3);
    due(GuestHall.DEAD, x.of(0, 0), "DEAD by a fault");
    due(1, x.fail(0), "it goes on");
    due(GuestHall.READY, x.of(0, 0), "with the state of the step");
    due(1, x.of(0, 2), "next");
    due(0, x.out(0), "out");
    x.tick(1);
    due(1, x.out(0), "it is said once");
    // The words of a step come along, swapped.
    Hall y = new Hall();
    make(y, all(put(7, 4), put(8, 4)));
    y.tick(3);
    y.follow(0, true);
    y.tick(3);
    due(8, y.word(0, 1, 0), "word");
    y.fail(0);
    due(7, y.word(0, 1, 0), "the word of the step");
    due(GuestHall.SWAPPED, y.pageOf(0, 1), "its page");
    yes(y.isAsPlain(0), "isAsPlain");
    // Inputs that were there at the step come again, also those that were taken since.
    Hall z = new Hall();
    make(z, IN, 0, 0, IN, 1, 0, IN, 2, 0);
    z.input(0, 1);
    z.follow(0, true);
    z.input(0, 2);
    z.tick(2);
    z.input(0, 3);
    due(1, z.of(0, 8), "inputs");
    z.fail(0);
    due(3, z.of(0, 8), "inputs");
    z.tick(3);
    for (int i = 0; i < 3; i++) due(i + 1, z.register(0, i), "input " + i);
    yes(z.isAsPlain(0), "isAsPlain");
    // Only what came since the last step comes behind its inputs.
    Hall w = new Hall();
    make(w, IN, 0, 0, IN, 1, 0);
    w.follow(0, true);
    w.input(0, 4);
    w.step(0);
    w.input(0, 5);
    w.fail(0);
    due(2, w.of(0, 8), "inputs");
    w.tick(2);
    due(4, w.register(0, 0), "the input of the step");
    due(5, w.register(0, 1), "the one that came since");
  }

  static void promise18() {
    Hall x = new Hall();
    make(x, LOOP);
    x.fail(0);
    refused(x, STATE, () -> { x.mend(1); return 0; }, "mend of one that is whole");
    refused(x, BOUNDS, () -> { x.mend(2); return 0; }, "mend(2)");
    refused(x, BOUNDS, () -> { x.mend(-1); return 0; }, "mend(-1)");
    x.mend(0);
    refused(x, STATE, () -> { x.mend(0); return 0; }, "mend again");
    due(GuestHall.DEAD, x.of(0, 0), "who was there is DEAD still");
    make(x, LOOP);
    x.tick(3);
    due(3, x.of(1, 7), "guests run there again");
    x.fail(0);
    x.fail(1);
    x.mend(1);
    due(2, x.guest(1, 1, false), "guest on the one that is mended");
  }

  static void promise19() {
    Hall x = new Hall();
    x.tick(3);
    x.tick(4);
    due(7, x.time(), "time");
    x.fail(0);
    x.fail(1);
    x.tick(1);
    due(8, x.time(), "time goes by without hosts");
  }

  static void promise20() {
    Hall x = new Hall();
    make(x, LOOP);
    for (int what = 0; what <= 10; what++) due(what == 9 ? -1 : 0, x.of(0, what), "of(0, " + what + ")");
    refused(x, ARGUMENT, () -> x.of(0, 11), "of(0, 11)");
    refused(x, ARGUMENT, () -> x.of(0, -1), "of(0, -1)");
    refused(x, BOUNDS, () -> x.of(1, 11), "of(1, 11)");
    refused(x, BOUNDS, () -> x.of(-1, 0), "of(-1, 0)");
  }

  static void promise21() {
    Hall x = new Hall();
    make(x, 0, 1, false, SET, 0, 1, SET, 1, 2, SET, 2, 3, SET, 3, 9999);
    make(x, 0, 1, true, SET, 0, 1, OUT, 0, 0);
    x.tick(12);
    for (int i = 0; i < 4; i++) due(i == 3 ? 9999 : i + 1, x.register(0, i), "register");
    for (int i = 0; i < 4; i++) due(-1, x.register(1, i), "register of a sealed one");
    due(1, x.outAt(1, 0), "what a sealed one says");
    refused(x, BOUNDS, () -> x.register(0, 4), "register(0, 4)");
    refused(x, BOUNDS, () -> x.register(1, -1), "register(1, -1)");
    refused(x, BOUNDS, () -> x.register(2, 0), "register(2, 0)");
  }

  static void promise22() {
    Hall x = new Hall();
    make(x, 0, 1, false, all(put(7, 6), put(8, 31)));
    make(x, 0, 1, true, put(7, 6));
    x.tick(12);
    due(7, x.word(0, 1, 2), "word");
    due(8, x.word(0, 7, 3), "word");
    due(0, x.word(0, 1, 1), "word");
    due(-1, x.word(1, 1, 2), "word of a sealed one");
    due(-1, x.word(1, 0, 0), "word of a sealed one");
    due(GuestHall.HELD, x.pageOf(1, 1), "page of a sealed one");
    refused(x, BOUNDS, () -> x.word(0, 8, 0), "word(0, 8, 0)");
    refused(x, BOUNDS, () -> x.word(0, -1, 0), "word(0, -1, 0)");
    refused(x, BOUNDS, () -> x.word(1, 0, 4), "word(1, 0, 4)");
    refused(x, BOUNDS, () -> x.word(0, 0, -1), "word(0, 0, -1)");
    refused(x, BOUNDS, () -> x.word(2, 0, 0), "word(2, 0, 0)");
  }

  static void promises23to25() {
    Hall x = new Hall();
    make(x, all(put(0, 4), get(8), of(GIVE, 0, 1), put(1, 12), of(STOP, 0, 0)));
    x.tick(3);
    due(GuestHall.HELD, x.pageOf(0, 1), "a page of 0 that was written");
    due(0, x.frameOf(0, 1), "frame");
    due(1, x.used(0), "used");
    x.tick(2);
    due(GuestHall.HELD, x.pageOf(0, 2), "a page that was read");
    due(1, x.frameOf(0, 2), "frame");
    due(2, x.used(0), "used");
    due(2, x.exits(0, GuestHall.GIVEN), "GIVEN");
    x.tick(1);
    due(GuestHall.BARE, x.pageOf(0, 1), "a page that was given back");
    due(-1, x.frameOf(0, 1), "frame");
    due(1, x.used(0), "used");
    x.tick(3);
    due(0, x.frameOf(0, 3), "the lowest free frame");
    due(0, x.used(1), "used(1)");
    refused(x, BOUNDS, () -> x.pageOf(0, 8), "pageOf(0, 8)");
    refused(x, BOUNDS, () -> x.pageOf(0, -1), "pageOf(0, -1)");
    refused(x, BOUNDS, () -> x.pageOf(1, 0), "pageOf(1, 0)");
    refused(x, BOUNDS, () -> x.frameOf(0, 8), "frameOf(0, 8)");
    refused(x, BOUNDS, () -> x.frameOf(0, -1), "frameOf(0, -1)");
    refused(x, BOUNDS, () -> x.frameOf(1, 0), "frameOf(1, 0)");
    refused(x, BOUNDS, () -> x.used(2), "used(2)");
    refused(x, BOUNDS, () -> x.used(-1), "used(-1)");
  }

  static void promise26() {
    Hall x = new Hall();
    make(x, OUT, 0, 0, OUT, 0, 1, IN, 0, 0, IN, 0, 1, IN, 0, 2, WAIT, 0, 0, STOP, 0, 0);
    x.send(0);
    x.snapshot(0);
    x.tick(7);
    due(5, x.exits(0, GuestHall.TOLD), "TOLD");
    due(2, x.exits(0, GuestHall.RESTS), "RESTS");
    x.restore(0, 0);
    due(5, x.exits(0, GuestHall.TOLD), "TOLD, never taken back");
    x.tick(1);
    due(6, x.exits(0, GuestHall.TOLD), "TOLD");
    for (int kind : new int[] {GuestHall.GIVEN, GuestHall.BROUGHT, GuestHall.COPIED, GuestHall.LET}) due(0, x.exits(0, kind), "exits");
    refused(x, ARGUMENT, () -> x.exits(0, 6), "exits(0, 6)");
    refused(x, ARGUMENT, () -> x.exits(0, -1), "exits(0, -1)");
    refused(x, BOUNDS, () -> x.exits(1, 6), "exits(1, 6)");
  }

  static void promises27to29() {
    Hall x = new Hall();
    make(x, SET, 1, 1, OUT, 0, 0, ADD, 0, 1, JUMP, 1, 1);
    x.tick(100);
    due(33, x.out(0), "out");
    for (int i = 0; i < 33; i++) due(i, x.outAt(0, i), "outAt");
    refused(x, BOUNDS, () -> x.outAt(0, 33), "outAt(0, 33)");
    refused(x, BOUNDS, () -> x.outAt(0, -1), "outAt(0, -1)");
    refused(x, BOUNDS, () -> x.outAt(1, 0), "outAt(1, 0)");
    refused(x, BOUNDS, () -> x.out(1), "out(1)");
    refused(x, BOUNDS, () -> x.held(1), "held(1)");
    refused(x, BOUNDS, () -> x.held(-1), "held(-1)");
    x.follow(0, true);
    x.tick(30);
    due(33, x.out(0), "out");
    due(10, x.held(0), "held");
    refused(x, BOUNDS, () -> x.outAt(0, 33), "outAt of what is held");
  }

  static void promise30() {
    Hall x = new Hall();
    make(x, all(put(7, 0), put(7, 4), get(8), of(SET, 0, 9, SET, 1, 0, STORE, 0, 1, SET, 1, 4, SET, 0, 0, STORE, 0, 1)));
    make(x, put(1, 0));
    x.pause(1, true);
    x.tick(8);
    x.snapshot(0);
    due(2, x.stored(0), "the pages that are not 0");
    x.tick(3);
    x.snapshot(0);
    due(1, x.stored(1), "the page that is not as it was");
    x.tick(3);
    x.snapshot(0);
    due(1, x.stored(2), "a page that is 0 again");
    x.restore(0, 0);
    x.snapshot(0);
    due(0, x.stored(3), "as the one that was restored last");
    x.tick(3);
    x.restore(0, 1);
    x.tick(3);
    x.snapshot(0);
    due(1, x.stored(4), "not as the one that was restored last");
    x.pause(1, false);
    x.tick(6);
    x.snapshot(1);
    due(1, x.stored(5), "another guest's");
    due(2, x.stored(0), "stays what it was");
    refused(x, BOUNDS, () -> x.stored(6), "stored(6)");
    refused(x, BOUNDS, () -> x.stored(-1), "stored(-1)");
  }

  static void promise31() {
    Hall x = new Hall();
    make(x, 0, 2, false, all(of(HANDLE, 0, 12, IN, 0, 1, OUT, 0, 0, SET, 1, 4, STORE, 0, 1, LOAD, 2, 1, OUT, 2, 0, SET, 3, 5, OUT, 3, 1,
        WAIT, 0, 0, SET, 3, 32, LOAD, 3, 3, IN, 2, 2, OUT, 2, 0, IN, 2, 0, STORE, 2, 1, SET, 3, 1, BACK, 0, 0)));
    make(x, 0, 1, true, all(put(4, 4), of(IN, 2, 1, OUT, 2, 0), LOOP));
    for (int i = 0; i < 12; i++) {
      x.input(0, i);
      if (i % 3 == 0) x.send(0);
      if (i == 2) x.snapshot(0);
      if (i == 4) x.scale(0, 3);
      if (i == 5) x.move(0);
      if (i == 6) x.land(0, true);
      if (i == 7) x.restore(0, 0);
      if (i == 8) x.follow(0, true);
      if (i == 9) x.step(0);
      if (i == 10) x.fail(1);
      x.tick(17);
      x.share(0);
      yes(x.isAsPlain(0), "isAsPlain(0) at " + i);
      yes(x.isAsPlain(1), "isAsPlain(1) at " + i);
    }
    x.fail(0);
    yes(x.isAsPlain(0), "isAsPlain of one that is DEAD by the failing of a host");
    yes(x.isAsPlain(1), "isAsPlain of one that is DEAD by the failing of a host");
    refused(x, BOUNDS, () -> x.isAsPlain(2) ? 1 : 0, "isAsPlain(2)");
    refused(x, BOUNDS, () -> x.isAsPlain(-1) ? 1 : 0, "isAsPlain(-1)");
  }

  public static void main(String[] args) {
    Runnable[] promises = {PromisesTest::promise1, PromisesTest::promise2, PromisesTest::promise3, PromisesTest::instructions,
        PromisesTest::promise4, PromisesTest::promise5, PromisesTest::promise6, PromisesTest::promise7, PromisesTest::promise8,
        PromisesTest::promise9, PromisesTest::promise10, PromisesTest::promise11, PromisesTest::promise12, PromisesTest::promise13,
        PromisesTest::promise14, PromisesTest::promise15, PromisesTest::promise16, PromisesTest::promise17, PromisesTest::promise18,
        PromisesTest::promise19, PromisesTest::promise20, PromisesTest::promise21, PromisesTest::promise22, PromisesTest::promises23to25,
        PromisesTest::promise26, PromisesTest::promises27to29, PromisesTest::promise30, PromisesTest::promise31};
    String[] names = {"1", "2", "3", "instructions", "4", "5", "6", "7", "8", "9", "10", "11", "12", "13", "14", "15", "16", "17", "18",
        "19", "20", "21", "22", "23 to 25", "26", "27 to 29", "30", "31"};
    for (int i = 0; i < promises.length; i++) test("promise " + names[i], promises[i]);
    report();
  }
}
