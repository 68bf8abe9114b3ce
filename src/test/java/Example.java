public final class Example {
  private static void show(String what, int answer) {
    System.out.println(what + ": " + answer);
  }

  public static void main(String[] args) {
    GuestHall hall = new GuestHall();

    // A guest on the host 0, of the weight 1, not sealed. It adds its inputs up and says each sum, until a 0 comes.
    int guest = hall.guest(0, 1, false);
    hall.instruct(guest, GuestHall.IN, 0, 0);     // 0: the register 0 becomes the first input
    hall.instruct(guest, GuestHall.ADD, 1, 0);    // 1: the register 1 becomes the sum
    hall.instruct(guest, GuestHall.STORE, 1, 3);  // 2: the word at the address 0, which the register 3 tells, too
    hall.instruct(guest, GuestHall.OUT, 1, 0);    // 3: it is said
    hall.instruct(guest, GuestHall.JUMP, 0, 0);   // 4: once more, if the input was not 0
    hall.input(guest, 5);
    hall.input(guest, 7);
    hall.input(guest, 9);

    hall.tick(5);
    show("said first", hall.outAt(guest, 0));
    show("the word 0 of the page 0", hall.word(guest, 0, 0));
    show("the frame of the page 0", hall.frameOf(guest, 0));

    int kept = hall.snapshot(guest);
    show("pages that the snapshot stores", hall.stored(kept));

    show("pages to be sent to the other host", hall.move(guest));
    show("still to be sent after a round", hall.round(guest, 8));
    hall.tick(5);
    show("sent at the end, as it was written again", hall.land(guest, true));
    show("the host then", hall.of(guest, 1));

    hall.follow(guest, true);
    hall.tick(5);
    show("held, as the guest is followed", hall.held(guest));
    show("guests that go on when the host 1 fails", hall.fail(1));
    show("the word, as in the last step", hall.word(guest, 0, 0));
    hall.mend(1);

    hall.restore(guest, kept);
    show("the word, as in the snapshot", hall.word(guest, 0, 0));
    hall.tick(20);
    show("how it is at the end", hall.of(guest, 0));
    for (int i = 0; i < hall.out(guest); i++) {
      show("said", hall.outAt(guest, i));
    }
    try {
      hall.send(guest);
    } catch (IllegalStateException e) {
      System.out.println("a guest that is STOPPED gets no interrupt");
    }
  }
}
